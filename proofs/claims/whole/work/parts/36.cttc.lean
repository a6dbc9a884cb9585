theorem cs_X11_243 : CWS RX11 243 yX11_isTown cX11_isTown 1 (some (.boolean)) 1 := ⟨cd_X11_isTown, st_X11_isTown, in_X11, ml_X11_243, by decide +kernel⟩
theorem cs_X11_262 : CWS RX11 262 yJ6_bitCount_0f7a4 cJ6_bitCount_0f7a4 1 (some (.int)) 1 := ⟨cd_J6_bitCount_0f7a4, st_J6_bitCount_0f7a4, in_J6, ml_X11_262, by decide +kernel⟩
theorem cs_X11_270 : CWS RX11 270 yX11_lineFits cX11_lineFits 2 (some (.boolean)) 2 := ⟨cd_X11_lineFits, st_X11_lineFits, in_X11, ml_X11_270, by decide +kernel⟩
theorem cv_X11_155 : CWV RX11 155 RX8 yX8_stepBack cX8_stepBack 1 (some (.boolean)) 0 := ⟨cd_X8_stepBack, im_X8_stepBack, se_X8_X8_stepBack_X8_stepBack, in_X8, ml_X11_155, by decide +kernel⟩
theorem cv_X11_227 : CWV RX11 227 RX11 yX11_isCells cX11_isCells 2 (some (.boolean)) 1 := ⟨cd_X11_isCells, im_X11_isCells, se_X11_X11_isCells_X11_isCells, in_X11, ml_X11_227, by decide +kernel⟩
theorem cv_X11_240 : CWV RX11 240 RX11 yX11_tillBesideLesser cX11_tillBesideLesser 8 (some (.int)) 1 := ⟨cd_X11_tillBesideLesser, im_X11_tillBesideLesser, se_X11_X11_tillBesideLesser_X11_tillBesideLesser, in_X11, ml_X11_240, by decide +kernel⟩
theorem cv_X11_246 : CWV RX11 246 RX2 yX2_cellsOfTown cX2_cellsOfTown 4 (some (.int)) 1 := ⟨cd_X2_cellsOfTown, im_X2_cellsOfTown, se_X2_X2_cellsOfTown_X2_cellsOfTown, in_X2, ml_X11_246, by decide +kernel⟩
theorem cv_X11_249 : CWV RX11 249 RX8 yX8_worthOf cX8_worthOf 2 (some (.int)) 1 := ⟨cd_X8_worthOf, im_X8_worthOf, se_X8_X8_worthOf_X8_worthOf, in_X8, ml_X11_249, by decide +kernel⟩
theorem cv_X11_252 : CWV RX11 252 RX11 yX11_isRest cX11_isRest 3 (some (.boolean)) 1 := ⟨cd_X11_isRest, im_X11_isRest, se_X11_X11_isRest_X11_isRest, in_X11, ml_X11_252, by decide +kernel⟩
theorem cv_X11_259 : CWV RX11 259 RX11 yX11_fittingWants cX11_fittingWants 4 (some (.int)) 1 := ⟨cd_X11_fittingWants, im_X11_fittingWants, se_X11_X11_fittingWants_X11_fittingWants, in_X11, ml_X11_259, by decide +kernel⟩
theorem cv_X11_267 : CWV RX11 267 RX11 yX11_nextToTell cX11_nextToTell 8 (some (.int)) 1 := ⟨cd_X11_nextToTell, im_X11_nextToTell, se_X11_X11_nextToTell_X11_nextToTell, in_X11, ml_X11_267, by decide +kernel⟩
theorem cv_X11_351 : CWV RX11 351 RX9 yX9_cellBits cX9_cellBits 1 (some (.int)) 0 := ⟨cd_X9_cellBits, im_X9_cellBits, se_X9_X9_cellBits_X9_cellBits, in_X9, ml_X11_351, by decide +kernel⟩
theorem cv_X11_365 : CWV RX11 365 RX11 yX11_lossOf cX11_lossOf 5 (some (.int)) 2 := ⟨cd_X11_lossOf, im_X11_lossOf, se_X11_X11_lossOf_X11_lossOf, in_X11, ml_X11_365, by decide +kernel⟩
theorem cv_X11_368 : CWV RX11 368 RX10 yX10_feetOf cX10_feetOf 4 (some (.int)) 1 := ⟨cd_X10_feetOf, im_X10_feetOf, se_X10_X10_feetOf_X10_feetOf, in_X10, ml_X11_368, by decide +kernel⟩
theorem cv_X11_371 : CWV RX11 371 RX11 yX11_wetBy cX11_wetBy 2 (some (.int)) 1 := ⟨cd_X11_wetBy, im_X11_wetBy, se_X11_X11_wetBy_X11_wetBy, in_X11, ml_X11_371, by decide +kernel⟩
theorem cv_X11_374 : CWV RX11 374 RX2 yX2_tidesFit cX2_tidesFit 4 (some (.boolean)) 2 := ⟨cd_X2_tidesFit, im_X2_tidesFit, se_X2_X2_tidesFit_X2_tidesFit, in_X2, ml_X11_374, by decide +kernel⟩
theorem cv_X11_377 : CWV RX11 377 RX11 yX11_countWetting cX11_countWetting 5 (some (.int)) 2 := ⟨cd_X11_countWetting, im_X11_countWetting, se_X11_X11_countWetting_X11_countWetting, in_X11, ml_X11_377, by decide +kernel⟩
set_option maxHeartbeats 4000000 in
set_option maxRecDepth 100000 in
theorem c_X11_undo_0 (Γ : GG) (l : Launch) (t : Nat → Nat) (s : Nat → Nat) (x : Nat → Nat) (V : V3) (c : Nat → Nat) (y : Nat → Nat) (p : Nat → Nat → Nat)  : Ci Γ l yX11_undo cX11_undo 1 (some (.int)) 1 22 0 0 [.ref (t 0)] [bTT Γ t s x V, bSt Γ s c y p 0] (fun (r : Int32) (u : V3) => r = (-3) ∧ u = ttRef V (-3)) (fun (u : V3) => [bTT Γ t s x u, bSt Γ s c y p 0]) := by
  refine Ci.of (Or.inl rfl) (by decide) (Nat.le_of_ble_eq_true rfl) ?_
  intro pp ee ss mm bb me cd AA QQ XX hnm hA hP hD fin ls hl
  obtain ⟨zx, zb, hml, hown, hts, hK⟩ := id XX
  have hS : va_S AA ss.heap ss.heap [] := va_S.rf
  have hl : lv_has ls 1 [(0, .ref (t 0))] := hl
  refine lv_aload_n zx zb dX11_undo_0 rfl (lv_at hl 0 rfl) ?_
  refine g_get (v := .ref (s 0)) XX hP 0 0 rfl rfl rfl iwX11 0 (by decide) fl_X11_30 rfl dX11_undo_1 ?_
  refine call_Vi (As := []) (rest := []) XX cv_X11_155 (c_X8_stepBack_0 Γ l s c y p ) hP hD hS hA [1] (by decide) rfl (fun _ => rfl) 1 0 rfl rfl rfl rfl hl.1 rfl ⟨⟨by decide, by decide⟩, by decide, by decide⟩ (Nat.le_of_ble_eq_true rfl) dX11_undo_4 (fun r_4 u H locs hw hP hD hS => ?_)
  have hw := hw.symm
  subst hw
  have hP : bP Γ [bTT Γ t s x V, bSt Γ s c y p 0] H := hP
  have hD : bD AA [bTT Γ t s x V, bSt Γ s c y p 0] := hD
  refine lv_if_eq (tgt := 14) zx zb dX11_undo_7 (by decide) (fun c_7 => ?_) (fun c_7 => ?_)
  · have c_7 : false = false := bI_0.mp c_7
    refine lv_aload_n zx zb dX11_undo_14 rfl (lv_at hl 0 rfl) ?_
    refine lv_bipush (v := (-3)) zx zb dX11_undo_15 (by decide) ?_
    refine lv_bipush (v := (-3)) zx zb dX11_undo_17 (by decide) ?_
    refine call_Vi (As := [.int (-3), .int (-3)]) (rest := []) XX cv_X11_79 (c_X11_refused Γ l t s x V (-3) (-3) ) hP hD hS hA [0] (by decide) rfl (fun _ => rfl) 0 0 rfl rfl rfl rfl hl.1 rfl ⟨⟨by decide, by decide⟩, by decide, by decide⟩ (Nat.le_of_ble_eq_true rfl) dX11_undo_19 (fun r_19 u H locs hw hP hD hS => ?_)
    obtain ⟨hw1, hw2⟩ := hw
    have hw1 := hw1.symm
    have hw2 := hw2.symm
    subst hw1
    subst hw2
    have hP : bP Γ [bTT Γ t s x (ttRef V (-3)), bSt Γ s c y p 0] H := hP
    have hD : bD AA [bTT Γ t s x (ttRef V (-3)), bSt Γ s c y p 0] := hD
    exact fin _ _ (-3) (ttRef V (-3)) 22 _ dX11_undo_22 (fun h => by cases h) ⟨(rfl), (rfl)⟩ hP hD hS
  · have c_7 : false = true := bI_ne c_7
    exact absurd c_7 (by decide)

set_option maxHeartbeats 4000000 in
set_option maxRecDepth 100000 in
theorem c_X11_undo_s (Γ : GG) (l : Launch) (t : Nat → Nat) (s : Nat → Nat) (x : Nat → Nat) (V : V3) (c : Nat → Nat) (y : Nat → Nat) (p : Nat → Nat → Nat) (pc : Nat) (Y : YrV) (P : Nat → YrV) (hpc : pc < 6) : Ci Γ l yX11_undo cX11_undo 1 (some (.int)) 3 67 0 0 [.ref (t 0)] [bTT Γ t s x V, bSt Γ s c y p (pc + 1), bYr Γ y Y, bYr Γ (p 0) (P 0), bYr Γ (p 1) (P 1), bYr Γ (p 2) (P 2), bYr Γ (p 3) (P 3), bYr Γ (p 4) (P 4), bYr Γ (p 5) (P 5)] (fun (r : Int32) (u : YrV) => r = nI 1 ∧ u = P pc) (fun (u : YrV) => [bTT Γ t s x V, bSt Γ s c y p pc, bYr Γ y u, bYr Γ (p 0) (P 0), bYr Γ (p 1) (P 1), bYr Γ (p 2) (P 2), bYr Γ (p 3) (P 3), bYr Γ (p 4) (P 4), bYr Γ (p 5) (P 5)]) := by
  refine Ci.of (Or.inl rfl) (by decide) (Nat.le_of_ble_eq_true rfl) ?_
  intro pp ee ss mm bb me cd AA QQ XX hnm hA hP hD fin ls hl
  obtain ⟨zx, zb, hml, hown, hts, hK⟩ := id XX
  have hS : va_S AA ss.heap ss.heap [] := va_S.rf
  have hl : lv_has ls 1 [(0, .ref (t 0))] := hl
  refine lv_aload_n zx zb dX11_undo_0 rfl (lv_at hl 0 rfl) ?_
  refine g_get (v := .ref (s 0)) XX hP 0 0 rfl rfl rfl iwX11 0 (by decide) fl_X11_30 rfl dX11_undo_1 ?_
  refine call_Vi (As := []) (rest := []) XX cv_X11_155 (c_X8_stepBack_s Γ l s c y p pc Y P (hpc)) hP hD hS hA [1, 2, 3, 4, 5, 6, 7, 8] (by decide) rfl (fun _ => rfl) 1 0 rfl rfl rfl rfl hl.1 rfl ⟨⟨by decide, by decide⟩, by decide, by decide⟩ (Nat.le_of_ble_eq_true rfl) dX11_undo_4 (fun r_4 u H locs hw hP hD hS => ?_)
  obtain ⟨hw1, hw2⟩ := hw
  have hw1 := hw1.symm
  have hw2 := hw2.symm
  subst hw1
  subst hw2
  have hP : bP Γ [bTT Γ t s x V, bSt Γ s c y p pc, bYr Γ y (P pc), bYr Γ (p 0) (P 0), bYr Γ (p 1) (P 1), bYr Γ (p 2) (P 2), bYr Γ (p 3) (P 3), bYr Γ (p 4) (P 4), bYr Γ (p 5) (P 5)] H := hP
  have hD : bD AA [bTT Γ t s x V, bSt Γ s c y p pc, bYr Γ y (P pc), bYr Γ (p 0) (P 0), bYr Γ (p 1) (P 1), bYr Γ (p 2) (P 2), bYr Γ (p 3) (P 3), bYr Γ (p 4) (P 4), bYr Γ (p 5) (P 5)] := hD
  refine lv_if_eq (tgt := 14) zx zb dX11_undo_7 (by decide) (fun c_7 => ?_) (fun c_7 => ?_)
  · have c_7 : true = false := bI_0.mp c_7
    exact absurd c_7 (by decide)
  · clear c_7
    refine lv_iconst (v := nI 1) zx zb dX11_undo_10 (by decide) ?_
    refine lv_goto (tgt := 22) zx zb dX11_undo_11 (by decide) ?_
    exact fin _ _ (nI 1) (P pc) 22 _ dX11_undo_22 (fun h => by cases h) ⟨(rfl), (rfl)⟩ hP hD hS

set_option maxHeartbeats 4000000 in
set_option maxRecDepth 100000 in
theorem c_X11_clash (Γ : GG) (l : Launch) (t : Nat → Nat) (s : Nat → Nat) (x : Nat → Nat) (V : V3) (c : Nat → Nat) (k : Nat → Nat) (y : Nat → Nat) (p : Nat → Nat → Nat) (pc : Nat) (C : CoV) (tr : Nat → TrV) (i : Nat) (j : Nat) (hi : i < 6) (hj : j < 6) : Ci Γ l yX11_clash cX11_clash 5 (some (.boolean)) 1 21 0 0 [.ref (t 0), .int (nI i), .int (nI j)] [bTT Γ t s x V, bSt Γ s c y p pc, bCo Γ c k C, bTs Γ c k tr] (fun (r : Int32) (u : Unit) => r = bI (clP tr i j)) (fun (u : Unit) => [bTT Γ t s x V, bSt Γ s c y p pc, bCo Γ c k C, bTs Γ c k tr]) := by
  refine Ci.of (Or.inr rfl) (by decide) (Nat.le_of_ble_eq_true rfl) ?_
  intro pp ee ss mm bb me cd AA QQ XX hnm hA hP hD fin ls hl
  obtain ⟨zx, zb, hml, hown, hts, hK⟩ := id XX
  have hS : va_S AA ss.heap ss.heap [] := va_S.rf
  have hl : lv_has ls 5 [(0, .ref (t 0)), (1, .int (nI i)), (2, .int (nI j))] := hl
  refine lv_aload_n zx zb dX11_clash_0 rfl (lv_at hl 0 rfl) ?_
  refine g_get (v := .ref (s 0)) XX hP 0 0 rfl rfl rfl iwX11 0 (by decide) fl_X11_30 rfl dX11_clash_1 ?_
  refine g_get (v := .ref (c 0)) XX hP 1 0 rfl rfl rfl iwX8 0 (by decide) fl_X11_100 rfl dX11_clash_4 ?_
  refine g_get (v := .ref (c 5)) XX hP 2 0 rfl rfl rfl iwX2 7 (by decide) fl_X11_104 rfl dX11_clash_7 ?_
  refine lv_iload_n zx zb dX11_clash_10 rfl (lv_at hl 1 rfl) ?_
  refine g_aald (i := i) (v := c (6 + i)) XX hP 2 5 4 rfl rfl rfl (by omega) (by decide) rfl dX11_clash_11 ?_
  refine lv_astore_n (lv' := [(3, .ref (c (6 + i))), (0, .ref (t 0)), (1, .int (nI i)), (2, .int (nI j))]) zx zb dX11_clash_12 rfl hl (by decide) rfl (fun ls hl => ?_)
  refine lv_aload_n zx zb dX11_clash_13 rfl (lv_at hl 1 rfl) ?_
  refine g_get (v := .ref (s 0)) XX hP 0 0 rfl rfl rfl iwX11 0 (by decide) fl_X11_30 rfl dX11_clash_14 ?_
  refine g_get (v := .ref (c 0)) XX hP 1 0 rfl rfl rfl iwX8 0 (by decide) fl_X11_100 rfl dX11_clash_17 ?_
  refine g_get (v := .ref (c 5)) XX hP 2 0 rfl rfl rfl iwX2 7 (by decide) fl_X11_104 rfl dX11_clash_20 ?_
  refine lv_iload_n zx zb dX11_clash_23 rfl (lv_at hl 3 rfl) ?_
  refine g_aald (i := j) (v := c (6 + j)) XX hP 2 5 4 rfl rfl rfl (by omega) (by decide) rfl dX11_clash_24 ?_
  refine lv_astore (lv' := [(4, .ref (c (6 + j))), (3, .ref (c (6 + i))), (0, .ref (t 0)), (1, .int (nI i)), (2, .int (nI j))]) zx zb dX11_clash_25 hl (by decide) rfl (fun ls hl => ?_)
  refine lv_aload_n zx zb dX11_clash_27 rfl (lv_at hl 1 rfl) ?_
  refine callR_Vi (As := []) (rest := []) XX cv_X11_351 (c_X9_cellBits Γ l (c (6 + i)) k (tr i) ) hP hD hS hA (one_mem (bs := [bTT Γ t s x V, bSt Γ s c y p pc, bCo Γ c k C, bTs Γ c k tr]) (k := 3) (j := i) rfl (bTs_at Γ c k tr (hi))) (one_D _) 3 i rfl (bTs_at Γ c k tr (hi)) rfl rfl hl.1 rfl ⟨⟨by decide, by decide⟩, by decide, by decide⟩ (Nat.le_of_ble_eq_true rfl) dX11_clash_28 (fun r_28 H locs hw hP hS => ?_)
  have hw := hw.symm
  subst hw
  refine lv_aload zx zb dX11_clash_31 (lv_at hl 0 rfl) ?_
  refine callR_Vi (As := []) (rest := [.int (trBits (tr i))]) XX cv_X11_351 (c_X9_cellBits Γ l (c (6 + j)) k (tr j) ) hP hD hS hA (one_mem (bs := [bTT Γ t s x V, bSt Γ s c y p pc, bCo Γ c k C, bTs Γ c k tr]) (k := 3) (j := j) rfl (bTs_at Γ c k tr (hj))) (one_D _) 3 j rfl (bTs_at Γ c k tr (hj)) rfl rfl hl.1 rfl ⟨⟨by decide, by decide⟩, by decide, by decide⟩ (Nat.le_of_ble_eq_true rfl) dX11_clash_33 (fun r_33 H locs hw hP hS => ?_)
  have hw := hw.symm
  subst hw
  refine lv_iand zx zb dX11_clash_36 ?_
  refine lv_if_eq (tgt := 71) zx zb dX11_clash_37 (by decide) (fun c_37 => ?_) (fun c_37 => ?_)
  · have c_37 : ((trBits (tr i)) &&& (trBits (tr j))) = (0 : Int32) := c_37
    refine lv_iconst (v := nI 0) zx zb dX11_clash_71 (by decide) ?_
    exact fin _ _ (nI 0) () 72 _ dX11_clash_72 (fun _ => nar0) (by first | exact retT (by simp only [clP, Bool.and_eq_true, decide_eq_true_eq, Bool.and_eq_false_iff, decide_eq_false_iff_not]; first | exact ⟨c_37, Int32.not_le.mp c_64⟩ | exact Or.inl (fun h => h c_37) | exact Or.inr (Int32.not_lt.mpr c_64)) | exact retF (by simp only [clP, Bool.and_eq_true, decide_eq_true_eq, Bool.and_eq_false_iff, decide_eq_false_iff_not]; first | exact ⟨c_37, Int32.not_le.mp c_64⟩ | exact Or.inl (fun h => h c_37) | exact Or.inr (Int32.not_lt.mpr c_64))) hP hD hS
  · have c_37 : ¬ (((trBits (tr i)) &&& (trBits (tr j))) = (0 : Int32)) := c_37
    refine lv_aload_n zx zb dX11_clash_40 rfl (lv_at hl 1 rfl) ?_
    refine g_get (v := .int ((tr i).2.2.2.2.1)) XX hP 3 i rfl (bTs_at Γ c k tr (hi)) rfl iwX9 4 (by decide) fl_X11_354 rfl dX11_clash_41 ?_
    refine lv_aload zx zb dX11_clash_44 (lv_at hl 0 rfl) ?_
    refine g_get (v := .int ((tr j).2.2.2.2.1)) XX hP 3 j rfl (bTs_at Γ c k tr (hj)) rfl iwX9 4 (by decide) fl_X11_354 rfl dX11_clash_46 ?_
    refine va_mmax (rest := []) zx zb (hml.trans hl.1.symm) hown (hts _ ml_X11_357) (hts _ st_J9_max_7cf53) (hts _ in_J9) (hts _ cd_J9_max_7cf53) (Nat.le_of_ble_eq_true rfl) (Nat.le_of_ble_eq_true rfl) (Nat.le_of_ble_eq_true rfl) (Nat.le_of_ble_eq_true rfl) dX11_clash_49 ?_
    refine g_top (y := imax ((tr i).2.2.2.2.1) ((tr j).2.2.2.2.1)) rfl ?_
    refine lv_aload_n zx zb dX11_clash_52 rfl (lv_at hl 1 rfl) ?_
    refine g_get (v := .int ((tr i).2.2.2.2.2.1)) XX hP 3 i rfl (bTs_at Γ c k tr (hi)) rfl iwX9 5 (by decide) fl_X11_118 rfl dX11_clash_53 ?_
    refine lv_aload zx zb dX11_clash_56 (lv_at hl 0 rfl) ?_
    refine g_get (v := .int ((tr j).2.2.2.2.2.1)) XX hP 3 j rfl (bTs_at Γ c k tr (hj)) rfl iwX9 5 (by decide) fl_X11_118 rfl dX11_clash_58 ?_
    refine va_mmin (rest := [.int (imax ((tr i).2.2.2.2.1) ((tr j).2.2.2.2.1))]) zx zb (hml.trans hl.1.symm) hown (hts _ ml_X11_362) (hts _ st_J9_min_7cf53) (hts _ in_J9) (hts _ cd_J9_min_7cf53) (Nat.le_of_ble_eq_true rfl) (Nat.le_of_ble_eq_true rfl) (Nat.le_of_ble_eq_true rfl) (Nat.le_of_ble_eq_true rfl) dX11_clash_61 ?_
    refine g_top (y := imin ((tr i).2.2.2.2.2.1) ((tr j).2.2.2.2.2.1)) rfl ?_
    refine lv_icmp_ge (tgt := 71) zx zb dX11_clash_64 (by decide) (fun c_64 => ?_) (fun c_64 => ?_)
    · have c_64 : (imin ((tr i).2.2.2.2.2.1) ((tr j).2.2.2.2.2.1)) ≤ (imax ((tr i).2.2.2.2.1) ((tr j).2.2.2.2.1)) := c_64
      refine lv_iconst (v := nI 0) zx zb dX11_clash_71 (by decide) ?_
      exact fin _ _ (nI 0) () 72 _ dX11_clash_72 (fun _ => nar0) (by first | exact retT (by simp only [clP, Bool.and_eq_true, decide_eq_true_eq, Bool.and_eq_false_iff, decide_eq_false_iff_not]; first | exact ⟨c_37, Int32.not_le.mp c_64⟩ | exact Or.inl (fun h => h c_37) | exact Or.inr (Int32.not_lt.mpr c_64)) | exact retF (by simp only [clP, Bool.and_eq_true, decide_eq_true_eq, Bool.and_eq_false_iff, decide_eq_false_iff_not]; first | exact ⟨c_37, Int32.not_le.mp c_64⟩ | exact Or.inl (fun h => h c_37) | exact Or.inr (Int32.not_lt.mpr c_64))) hP hD hS
    · have c_64 : ¬ ((imin ((tr i).2.2.2.2.2.1) ((tr j).2.2.2.2.2.1)) ≤ (imax ((tr i).2.2.2.2.1) ((tr j).2.2.2.2.1))) := c_64
      refine lv_iconst (v := nI 1) zx zb dX11_clash_67 (by decide) ?_
      refine lv_goto (tgt := 72) zx zb dX11_clash_68 (by decide) ?_
      exact fin _ _ (nI 1) () 72 _ dX11_clash_72 (fun _ => nar1) (by first | exact retT (by simp only [clP, Bool.and_eq_true, decide_eq_true_eq, Bool.and_eq_false_iff, decide_eq_false_iff_not]; first | exact ⟨c_37, Int32.not_le.mp c_64⟩ | exact Or.inl (fun h => h c_37) | exact Or.inr (Int32.not_lt.mpr c_64)) | exact retF (by simp only [clP, Bool.and_eq_true, decide_eq_true_eq, Bool.and_eq_false_iff, decide_eq_false_iff_not]; first | exact ⟨c_37, Int32.not_le.mp c_64⟩ | exact Or.inl (fun h => h c_37) | exact Or.inr (Int32.not_lt.mpr c_64))) hP hD hS

set_option maxHeartbeats 4000000 in
set_option maxRecDepth 100000 in
theorem c_X11_tillBesideLesser (Γ : GG) (l : Launch) (t : Nat → Nat) (s : Nat → Nat) (x : Nat → Nat) (V : V3) (c : Nat → Nat) (k : Nat → Nat) (y : Nat → Nat) (p : Nat → Nat → Nat) (pc : Nat) (C : CoV) (tr : Nat → TrV) (f : Nat → Int32) (i : Nat) (hi : i < 6) : Ci Γ l yX11_tillBesideLesser cX11_tillBesideLesser 8 (some (.int)) 1 21 0 0 [.ref (t 0), .int (nI i)] [bTT Γ t s x V, bSt Γ s c y p pc, bCo Γ c k C, bTs Γ c k tr, bA Γ (t 3) 6 f] (fun (r : Int32) (u : Unit) => r = tillB tr f i i) (fun (u : Unit) => [bTT Γ t s x V, bSt Γ s c y p pc, bCo Γ c k C, bTs Γ c k tr, bA Γ (t 3) 6 f]) := by
  refine Ci.of (Or.inl rfl) (by decide) (Nat.le_of_ble_eq_true rfl) ?_
  intro pp ee ss mm bb me cd AA QQ XX hnm hA hP hD fin ls hl
  obtain ⟨zx, zb, hml, hown, hts, hK⟩ := id XX
  have hS : va_S AA ss.heap ss.heap [] := va_S.rf
  have hl : lv_has ls 8 [(0, .ref (t 0)), (1, .int (nI i))] := hl
  refine lv_aload_n zx zb dX11_tillBesideLesser_0 rfl (lv_at hl 0 rfl) ?_
  refine g_get (v := .ref (s 0)) XX hP 0 0 rfl rfl rfl iwX11 0 (by decide) fl_X11_30 rfl dX11_tillBesideLesser_1 ?_
  refine g_get (v := .ref (c 0)) XX hP 1 0 rfl rfl rfl iwX8 0 (by decide) fl_X11_100 rfl dX11_tillBesideLesser_4 ?_
  refine g_get (v := .ref (c 5)) XX hP 2 0 rfl rfl rfl iwX2 7 (by decide) fl_X11_104 rfl dX11_tillBesideLesser_7 ?_
  refine lv_iload_n zx zb dX11_tillBesideLesser_10 rfl (lv_at hl 1 rfl) ?_
  refine g_aald (i := i) (v := c (6 + i)) XX hP 2 5 4 rfl rfl rfl (by omega) (by decide) rfl dX11_tillBesideLesser_11 ?_
  refine lv_astore_n (lv' := [(2, .ref (c (6 + i))), (0, .ref (t 0)), (1, .int (nI i))]) zx zb dX11_tillBesideLesser_12 rfl hl (by decide) rfl (fun ls hl => ?_)
  refine lv_aload_n zx zb dX11_tillBesideLesser_13 rfl (lv_at hl 0 rfl) ?_
  refine g_get (v := .int ((tr i).2.2.2.2.2.1)) XX hP 3 i rfl (bTs_at Γ c k tr (hi)) rfl iwX9 5 (by decide) fl_X11_118 rfl dX11_tillBesideLesser_14 ?_
  refine lv_istore_n (lv' := [(3, .int ((tr i).2.2.2.2.2.1)), (2, .ref (c (6 + i))), (0, .ref (t 0)), (1, .int (nI i))]) zx zb dX11_tillBesideLesser_17 rfl hl (by decide) rfl (fun ls hl => ?_)
  refine lv_iconst (v := nI 0) zx zb dX11_tillBesideLesser_18 (by decide) ?_
  refine lv_istore (lv' := [(4, .int (nI 0)), (3, .int ((tr i).2.2.2.2.2.1)), (2, .ref (c (6 + i))), (0, .ref (t 0)), (1, .int (nI i))]) zx zb dX11_tillBesideLesser_19 hl (by decide) rfl (fun ls hl => ?_)
  have L21 : ∀ (nn : Nat) (j : Nat) (a : Int32), (j ≤ i) → (a = tillB tr f i j) → i - j < nn → ∀ (H : Heap) (locs : List Loc), bP Γ [bTT Γ t s x V, bSt Γ s c y p pc, bCo Γ c k C, bTs Γ c k tr, bA Γ (t 3) 6 f] H → bD AA [bTT Γ t s x V, bSt Γ s c y p pc, bCo Γ c k C, bTs Γ c k tr, bA Γ (t 3) 6 f] → va_S AA ss.heap H locs → ∀ (ls : Array Slot), lv_has ls 8 [(0, .ref (t 0)), (1, .int (nI i)), (2, .ref (c (6 + i))), (3, .int a), (4, .int (nI j))] → W pp l ee { frames := 1, cells := 0, slots := 0, locals := 21 } ss mm [.ref (t 0), .int (nI i)].toArray bb me cd H locs 0 0 QQ (F0 mm 21 ls []) := by
    intro nn
    induction nn with
    | zero => intro j a hj ha hm; exact absurd hm (Nat.not_lt_zero _)
    | succ nn ih21 =>
      intro j a hj ha hm21 H locs hP hD hS ls hl
      refine lv_iload zx zb dX11_tillBesideLesser_21 (lv_at hl 4 rfl) ?_
      refine lv_iload_n zx zb dX11_tillBesideLesser_23 rfl (lv_at hl 1 rfl) ?_
      refine lv_icmp_ge (tgt := 106) zx zb dX11_tillBesideLesser_24 (by decide) (fun c_24 => ?_) (fun c_24 => ?_)
      · have c_24 : i ≤ j := (nI_leI (a := i) (b := j) (by omega) (by omega)).mp c_24
        refine lv_iload_n zx zb dX11_tillBesideLesser_106 rfl (lv_at hl 3 rfl) ?_
        exact fin _ _ a () 107 _ dX11_tillBesideLesser_107 (fun h => by cases h) (by have e : j = i := (by omega); subst e; exact ha) hP hD hS
      · have c_24 : ¬ (i ≤ j) := fun h => c_24 ((nI_leI (a := i) (b := j) (by omega) (by omega)).mpr h)
        refine lv_aload_n zx zb dX11_tillBesideLesser_27 rfl (lv_at hl 0 rfl) ?_
        refine g_get (v := .ref (s 0)) XX hP 0 0 rfl rfl rfl iwX11 0 (by decide) fl_X11_30 rfl dX11_tillBesideLesser_28 ?_
        refine g_get (v := .ref (c 0)) XX hP 1 0 rfl rfl rfl iwX8 0 (by decide) fl_X11_100 rfl dX11_tillBesideLesser_31 ?_
        refine g_get (v := .ref (c 5)) XX hP 2 0 rfl rfl rfl iwX2 7 (by decide) fl_X11_104 rfl dX11_tillBesideLesser_34 ?_
        refine lv_iload zx zb dX11_tillBesideLesser_37 (lv_at hl 4 rfl) ?_
        refine g_aald (i := j) (v := c (6 + j)) XX hP 2 5 4 rfl rfl rfl (by omega) (by decide) rfl dX11_tillBesideLesser_39 ?_
        refine lv_astore (lv' := [(5, .ref (c (6 + j))), (0, .ref (t 0)), (1, .int (nI i)), (2, .ref (c (6 + i))), (3, .int a), (4, .int (nI j))]) zx zb dX11_tillBesideLesser_40 hl (by decide) rfl (fun ls hl => ?_)
        refine lv_aload_n zx zb dX11_tillBesideLesser_42 rfl (lv_at hl 3 rfl) ?_
        refine g_get (v := .int ((tr i).2.2.2.2.1)) XX hP 3 i rfl (bTs_at Γ c k tr (hi)) rfl iwX9 4 (by decide) fl_X11_354 rfl dX11_tillBesideLesser_43 ?_
        refine lv_aload zx zb dX11_tillBesideLesser_46 (lv_at hl 0 rfl) ?_
        refine g_get (v := .int ((tr j).2.2.2.2.1)) XX hP 3 j rfl (bTs_at Γ c k tr (by omega)) rfl iwX9 4 (by decide) fl_X11_354 rfl dX11_tillBesideLesser_48 ?_
        refine va_mmax (rest := []) zx zb (hml.trans hl.1.symm) hown (hts _ ml_X11_357) (hts _ st_J9_max_7cf53) (hts _ in_J9) (hts _ cd_J9_max_7cf53) (Nat.le_of_ble_eq_true rfl) (Nat.le_of_ble_eq_true rfl) (Nat.le_of_ble_eq_true rfl) (Nat.le_of_ble_eq_true rfl) dX11_tillBesideLesser_51 ?_
        refine g_top (y := imax ((tr i).2.2.2.2.1) ((tr j).2.2.2.2.1)) rfl ?_
        refine lv_istore (lv' := [(6, .int (imax ((tr i).2.2.2.2.1) ((tr j).2.2.2.2.1))), (5, .ref (c (6 + j))), (0, .ref (t 0)), (1, .int (nI i)), (2, .ref (c (6 + i))), (3, .int a), (4, .int (nI j))]) zx zb dX11_tillBesideLesser_54 hl (by decide) rfl (fun ls hl => ?_)
        refine lv_aload_n zx zb dX11_tillBesideLesser_56 rfl (lv_at hl 4 rfl) ?_
        refine callR_Vi (As := []) (rest := []) XX cv_X11_351 (c_X9_cellBits Γ l (c (6 + i)) k (tr i) ) hP hD hS hA (one_mem (bs := [bTT Γ t s x V, bSt Γ s c y p pc, bCo Γ c k C, bTs Γ c k tr, bA Γ (t 3) 6 f]) (k := 3) (j := i) rfl (bTs_at Γ c k tr (hi))) (one_D _) 3 i rfl (bTs_at Γ c k tr (hi)) rfl rfl hl.1 rfl ⟨⟨by decide, by decide⟩, by decide, by decide⟩ (Nat.le_of_ble_eq_true rfl) dX11_tillBesideLesser_57 (fun r_57 H locs hw hP hS => ?_)
        have hw := hw.symm
        subst hw
        refine lv_aload zx zb dX11_tillBesideLesser_60 (lv_at hl 1 rfl) ?_
        refine callR_Vi (As := []) (rest := [.int (trBits (tr i))]) XX cv_X11_351 (c_X9_cellBits Γ l (c (6 + j)) k (tr j) ) hP hD hS hA (one_mem (bs := [bTT Γ t s x V, bSt Γ s c y p pc, bCo Γ c k C, bTs Γ c k tr, bA Γ (t 3) 6 f]) (k := 3) (j := j) rfl (bTs_at Γ c k tr (by omega))) (one_D _) 3 j rfl (bTs_at Γ c k tr (by omega)) rfl rfl hl.1 rfl ⟨⟨by decide, by decide⟩, by decide, by decide⟩ (Nat.le_of_ble_eq_true rfl) dX11_tillBesideLesser_62 (fun r_62 H locs hw hP hS => ?_)
        have hw := hw.symm
        subst hw
        refine lv_iand zx zb dX11_tillBesideLesser_65 ?_
        refine lv_if_eq (tgt := 73) zx zb dX11_tillBesideLesser_66 (by decide) (fun c_66 => ?_) (fun c_66 => ?_)
        · have c_66 : ((trBits (tr i)) &&& (trBits (tr j))) = (0 : Int32) := c_66
          refine lv_iconst (v := nI 0) zx zb dX11_tillBesideLesser_73 (by decide) ?_
          refine lv_istore (lv' := [(7, .int (nI 0)), (6, .int (imax ((tr i).2.2.2.2.1) ((tr j).2.2.2.2.1))), (5, .ref (c (6 + j))), (0, .ref (t 0)), (1, .int (nI i)), (2, .ref (c (6 + i))), (3, .int a), (4, .int (nI j))]) zx zb dX11_tillBesideLesser_74 hl (by decide) rfl (fun ls hl => ?_)
          refine lv_iload zx zb dX11_tillBesideLesser_76 (lv_at hl 0 rfl) ?_
          refine lv_if_eq (tgt := 100) zx zb dX11_tillBesideLesser_78 (by decide) (fun c_78 => ?_) (fun c_78 => ?_)
          · clear c_78
            refine lv_iinc (v := nI (j + 1)) (lv' := [(4, .int (nI (j + 1))), (7, .int (nI 0)), (6, .int (imax ((tr i).2.2.2.2.1) ((tr j).2.2.2.2.1))), (5, .ref (c (6 + j))), (0, .ref (t 0)), (1, .int (nI i)), (2, .ref (c (6 + i))), (3, .int a)]) zx zb dX11_tillBesideLesser_100 hl (k := 7) rfl (nI_inc _ 1) (by decide) rfl (fun ls hl => ?_)
            refine lv_goto (tgt := 21) zx zb dX11_tillBesideLesser_103 (by decide) ?_
            exact ih21 (j + 1) a (by omega) (by first | (rw [tillB, ← ha, if_neg (fun h => h.1 c_66)]; done) | (rw [tillB, ← ha, if_neg (fun h => Int32.not_lt.mpr c_94 h.2)]; done) | (rw [tillB, ← ha, if_pos ⟨c_66, Int32.not_le.mp c_94⟩]; done)) (by omega) _ _ hP hD hS _ (lv_sub hl [4, 5, 6, 7, 0] rfl)
          · exact absurd c_78 (by decide)
        · have c_66 : ¬ (((trBits (tr i)) &&& (trBits (tr j))) = (0 : Int32)) := c_66
          refine lv_iconst (v := nI 1) zx zb dX11_tillBesideLesser_69 (by decide) ?_
          refine lv_goto (tgt := 74) zx zb dX11_tillBesideLesser_70 (by decide) ?_
          refine lv_istore (lv' := [(7, .int (nI 1)), (6, .int (imax ((tr i).2.2.2.2.1) ((tr j).2.2.2.2.1))), (5, .ref (c (6 + j))), (0, .ref (t 0)), (1, .int (nI i)), (2, .ref (c (6 + i))), (3, .int a), (4, .int (nI j))]) zx zb dX11_tillBesideLesser_74 hl (by decide) rfl (fun ls hl => ?_)
          refine lv_iload zx zb dX11_tillBesideLesser_76 (lv_at hl 0 rfl) ?_
          refine lv_if_eq (tgt := 100) zx zb dX11_tillBesideLesser_78 (by decide) (fun c_78 => ?_) (fun c_78 => ?_)
          · exact absurd c_78 (by decide)
          · clear c_78
            refine lv_iload zx zb dX11_tillBesideLesser_81 (lv_at hl 1 rfl) ?_
            refine lv_iload_n zx zb dX11_tillBesideLesser_83 rfl (lv_at hl 6 rfl) ?_
            refine lv_aload_n zx zb dX11_tillBesideLesser_84 rfl (lv_at hl 3 rfl) ?_
            refine g_get (v := .ref (t 3)) XX hP 0 0 rfl rfl rfl iwX11 4 (by decide) fl_X11_50 rfl dX11_tillBesideLesser_85 ?_
            refine lv_iload zx zb dX11_tillBesideLesser_88 (lv_at hl 7 rfl) ?_
            refine g_ialdN (i := j) XX hP 4 0 rfl rfl (by omega) (by decide) dX11_tillBesideLesser_90 ?_
            refine va_mmin (rest := [.int (imax ((tr i).2.2.2.2.1) ((tr j).2.2.2.2.1))]) zx zb (hml.trans hl.1.symm) hown (hts _ ml_X11_362) (hts _ st_J9_min_7cf53) (hts _ in_J9) (hts _ cd_J9_min_7cf53) (Nat.le_of_ble_eq_true rfl) (Nat.le_of_ble_eq_true rfl) (Nat.le_of_ble_eq_true rfl) (Nat.le_of_ble_eq_true rfl) dX11_tillBesideLesser_91 ?_
            refine g_top (y := imin a (f j)) rfl ?_
            refine lv_icmp_ge (tgt := 100) zx zb dX11_tillBesideLesser_94 (by decide) (fun c_94 => ?_) (fun c_94 => ?_)
            · have c_94 : (imin a (f j)) ≤ (imax ((tr i).2.2.2.2.1) ((tr j).2.2.2.2.1)) := c_94
              refine lv_iinc (v := nI (j + 1)) (lv' := [(4, .int (nI (j + 1))), (7, .int (nI 1)), (6, .int (imax ((tr i).2.2.2.2.1) ((tr j).2.2.2.2.1))), (5, .ref (c (6 + j))), (0, .ref (t 0)), (1, .int (nI i)), (2, .ref (c (6 + i))), (3, .int a)]) zx zb dX11_tillBesideLesser_100 hl (k := 7) rfl (nI_inc _ 1) (by decide) rfl (fun ls hl => ?_)
              refine lv_goto (tgt := 21) zx zb dX11_tillBesideLesser_103 (by decide) ?_
              exact ih21 (j + 1) a (by omega) (by first | (rw [tillB, ← ha, if_neg (fun h => h.1 c_66)]; done) | (rw [tillB, ← ha, if_neg (fun h => Int32.not_lt.mpr c_94 h.2)]; done) | (rw [tillB, ← ha, if_pos ⟨c_66, Int32.not_le.mp c_94⟩]; done)) (by omega) _ _ hP hD hS _ (lv_sub hl [4, 5, 6, 7, 0] rfl)
            · have c_94 : ¬ ((imin a (f j)) ≤ (imax ((tr i).2.2.2.2.1) ((tr j).2.2.2.2.1))) := c_94
              refine lv_iload zx zb dX11_tillBesideLesser_97 (lv_at hl 1 rfl) ?_
              refine lv_istore_n (lv' := [(3, .int (imax ((tr i).2.2.2.2.1) ((tr j).2.2.2.2.1))), (7, .int (nI 1)), (6, .int (imax ((tr i).2.2.2.2.1) ((tr j).2.2.2.2.1))), (5, .ref (c (6 + j))), (0, .ref (t 0)), (1, .int (nI i)), (2, .ref (c (6 + i))), (4, .int (nI j))]) zx zb dX11_tillBesideLesser_99 rfl hl (by decide) rfl (fun ls hl => ?_)
              refine lv_iinc (v := nI (j + 1)) (lv' := [(4, .int (nI (j + 1))), (3, .int (imax ((tr i).2.2.2.2.1) ((tr j).2.2.2.2.1))), (7, .int (nI 1)), (6, .int (imax ((tr i).2.2.2.2.1) ((tr j).2.2.2.2.1))), (5, .ref (c (6 + j))), (0, .ref (t 0)), (1, .int (nI i)), (2, .ref (c (6 + i)))]) zx zb dX11_tillBesideLesser_100 hl (k := 7) rfl (nI_inc _ 1) (by decide) rfl (fun ls hl => ?_)
              refine lv_goto (tgt := 21) zx zb dX11_tillBesideLesser_103 (by decide) ?_
              exact ih21 (j + 1) (imax ((tr i).2.2.2.2.1) ((tr j).2.2.2.2.1)) (by omega) (by first | (rw [tillB, ← ha, if_neg (fun h => h.1 c_66)]; done) | (rw [tillB, ← ha, if_neg (fun h => Int32.not_lt.mpr c_94 h.2)]; done) | (rw [tillB, ← ha, if_pos ⟨c_66, Int32.not_le.mp c_94⟩]; done)) (by omega) _ _ hP hD hS _ (lv_sub hl [5, 6, 7, 1, 0] rfl)
  exact L21 _ 0 ((tr i).2.2.2.2.2.1) (by omega) (rfl) (Nat.lt_succ_self _) _ _ hP hD hS _ (lv_sub hl [3, 4, 2, 1, 0] rfl)

set_option maxHeartbeats 4000000 in
set_option maxRecDepth 100000 in
theorem c_J6_bitCount_0f7a4 (Γ : GG) (l : Launch) (q : Int32)  : Ci Γ l yJ6_bitCount_0f7a4 cJ6_bitCount_0f7a4 1 (some (.int)) 0 0 0 0 [.int q] [] (fun (r : Int32) (u : Unit) => r = popc q) (fun (u : Unit) => []) := by
  refine Ci.of (Or.inl rfl) (by decide) (Nat.le_of_ble_eq_true rfl) ?_
  intro pp ee ss mm bb me cd AA QQ XX hnm hA hP hD fin ls hl
  obtain ⟨zx, zb, hml, hown, hts, hK⟩ := id XX
  have hS : va_S AA ss.heap ss.heap [] := va_S.rf
  have hl : lv_has ls 1 [(0, .int q)] := hl
  refine lv_iload_n zx zb dJ6_bitCount_0f7a4_0 rfl (lv_at hl 0 rfl) ?_
  refine lv_iload_n zx zb dJ6_bitCount_0f7a4_1 rfl (lv_at hl 0 rfl) ?_
  refine lv_iconst (v := nI 1) zx zb dJ6_bitCount_0f7a4_2 (by decide) ?_
  refine lv_iushr (v := (q.toUInt32 >>> ((1 : Int32).toUInt32 &&& Int32.toUInt32 31)).toInt32) zx zb dJ6_bitCount_0f7a4_3 rfl ?_
  refine lv_ldcw zx zb hown (hts _ kc_J6_265) dJ6_bitCount_0f7a4_4 ?_
  refine g_top (y := nI 1431655765) rfl ?_
  refine lv_iand zx zb dJ6_bitCount_0f7a4_7 ?_
  refine g_top (y := ((q.toUInt32 >>> ((1 : Int32).toUInt32 &&& Int32.toUInt32 31)).toInt32) &&& 1431655765) rfl ?_
  refine lv_isub zx zb dJ6_bitCount_0f7a4_8 ?_
  refine g_top (y := pop1 q) (rfl) ?_
  refine lv_istore_n (lv' := [(0, .int (pop1 q))]) zx zb dJ6_bitCount_0f7a4_9 rfl hl (by decide) rfl (fun ls hl => ?_)
  refine lv_iload_n zx zb dJ6_bitCount_0f7a4_10 rfl (lv_at hl 0 rfl) ?_
  refine lv_ldcw zx zb hown (hts _ kc_J6_266) dJ6_bitCount_0f7a4_11 ?_
  refine g_top (y := nI 858993459) rfl ?_
  refine lv_iand zx zb dJ6_bitCount_0f7a4_14 ?_
  refine g_top (y := (pop1 q) &&& 858993459) rfl ?_
  refine lv_iload_n zx zb dJ6_bitCount_0f7a4_15 rfl (lv_at hl 0 rfl) ?_
  refine lv_iconst (v := nI 2) zx zb dJ6_bitCount_0f7a4_16 (by decide) ?_
  refine lv_iushr (v := ((pop1 q).toUInt32 >>> ((2 : Int32).toUInt32 &&& Int32.toUInt32 31)).toInt32) zx zb dJ6_bitCount_0f7a4_17 rfl ?_
  refine lv_ldcw zx zb hown (hts _ kc_J6_266) dJ6_bitCount_0f7a4_18 ?_
  refine g_top (y := nI 858993459) rfl ?_
  refine lv_iand zx zb dJ6_bitCount_0f7a4_21 ?_
  refine g_top (y := (((pop1 q).toUInt32 >>> ((2 : Int32).toUInt32 &&& Int32.toUInt32 31)).toInt32) &&& 858993459) rfl ?_
  refine lv_iadd zx zb dJ6_bitCount_0f7a4_22 ?_
  refine g_top (y := pop2 (pop1 q)) (rfl) ?_
  refine lv_istore_n (lv' := [(0, .int (pop2 (pop1 q)))]) zx zb dJ6_bitCount_0f7a4_23 rfl hl (by decide) rfl (fun ls hl => ?_)
  refine lv_iload_n zx zb dJ6_bitCount_0f7a4_24 rfl (lv_at hl 0 rfl) ?_
  refine lv_iload_n zx zb dJ6_bitCount_0f7a4_25 rfl (lv_at hl 0 rfl) ?_
  refine lv_iconst (v := nI 4) zx zb dJ6_bitCount_0f7a4_26 (by decide) ?_
  refine lv_iushr (v := ((pop2 (pop1 q)).toUInt32 >>> ((4 : Int32).toUInt32 &&& Int32.toUInt32 31)).toInt32) zx zb dJ6_bitCount_0f7a4_27 rfl ?_
  refine lv_iadd zx zb dJ6_bitCount_0f7a4_28 ?_
  refine lv_ldcw zx zb hown (hts _ kc_J6_267) dJ6_bitCount_0f7a4_29 ?_
  refine g_top (y := nI 252645135) rfl ?_
  refine lv_iand zx zb dJ6_bitCount_0f7a4_32 ?_
  refine g_top (y := ((pop2 (pop1 q)) + (((pop2 (pop1 q)).toUInt32 >>> ((4 : Int32).toUInt32 &&& Int32.toUInt32 31)).toInt32)) &&& 252645135) rfl ?_
  refine g_top (y := pop3 (pop2 (pop1 q))) (rfl) ?_
  refine lv_istore_n (lv' := [(0, .int (pop3 (pop2 (pop1 q))))]) zx zb dJ6_bitCount_0f7a4_33 rfl hl (by decide) rfl (fun ls hl => ?_)
  refine lv_iload_n zx zb dJ6_bitCount_0f7a4_34 rfl (lv_at hl 0 rfl) ?_
  refine lv_iload_n zx zb dJ6_bitCount_0f7a4_35 rfl (lv_at hl 0 rfl) ?_
  refine lv_bipush (v := nI 8) zx zb dJ6_bitCount_0f7a4_36 (by decide) ?_
  refine lv_iushr (v := ((pop3 (pop2 (pop1 q))).toUInt32 >>> ((8 : Int32).toUInt32 &&& Int32.toUInt32 31)).toInt32) zx zb dJ6_bitCount_0f7a4_38 rfl ?_
  refine lv_iadd zx zb dJ6_bitCount_0f7a4_39 ?_
  refine g_top (y := pop4 (pop3 (pop2 (pop1 q)))) (rfl) ?_
  refine lv_istore_n (lv' := [(0, .int (pop4 (pop3 (pop2 (pop1 q)))))]) zx zb dJ6_bitCount_0f7a4_40 rfl hl (by decide) rfl (fun ls hl => ?_)
  refine lv_iload_n zx zb dJ6_bitCount_0f7a4_41 rfl (lv_at hl 0 rfl) ?_
  refine lv_iload_n zx zb dJ6_bitCount_0f7a4_42 rfl (lv_at hl 0 rfl) ?_
  refine lv_bipush (v := nI 16) zx zb dJ6_bitCount_0f7a4_43 (by decide) ?_
  refine lv_iushr (v := ((pop4 (pop3 (pop2 (pop1 q)))).toUInt32 >>> ((16 : Int32).toUInt32 &&& Int32.toUInt32 31)).toInt32) zx zb dJ6_bitCount_0f7a4_45 rfl ?_
  refine lv_iadd zx zb dJ6_bitCount_0f7a4_46 ?_
  refine g_top (y := pop5 (pop4 (pop3 (pop2 (pop1 q))))) (rfl) ?_
  refine lv_istore_n (lv' := [(0, .int (pop5 (pop4 (pop3 (pop2 (pop1 q))))))]) zx zb dJ6_bitCount_0f7a4_47 rfl hl (by decide) rfl (fun ls hl => ?_)
  refine lv_iload_n zx zb dJ6_bitCount_0f7a4_48 rfl (lv_at hl 0 rfl) ?_
  refine lv_bipush (v := nI 63) zx zb dJ6_bitCount_0f7a4_49 (by decide) ?_
  refine lv_iand zx zb dJ6_bitCount_0f7a4_51 ?_
  refine g_top (y := (pop5 (pop4 (pop3 (pop2 (pop1 q))))) &&& 63) rfl ?_
  exact fin _ _ ((pop5 (pop4 (pop3 (pop2 (pop1 q))))) &&& 63) () 52 _ dJ6_bitCount_0f7a4_52 (fun h => by cases h) (rfl) hP hD hS

set_option maxHeartbeats 4000000 in
set_option maxRecDepth 100000 in
theorem c_X11_mend (Γ : GG) (l : Launch) (t : Nat → Nat) (s : Nat → Nat) (x : Nat → Nat) (V : V3) (c : Nat → Nat) (k : Nat → Nat) (y : Nat → Nat) (p : Nat → Nat → Nat) (pc : Nat) (C : CoV) (tr : Nat → TrV) (f : Nat → Int32) (htc : C.2.2.2.2.2.2.1 ≤ 6) : Ci Γ l yX11_mend cX11_mend 3 (some (.int)) 2 48 0 0 [.ref (t 0)] [bTT Γ t s x V, bSt Γ s c y p pc, bCo Γ c k C, bTs Γ c k tr, bA Γ (t 3) 6 f] (fun (r : Int32) (u : Nat → Int32) => r = meS tr f (coTc C)) (fun (u : Nat → Int32) => [bTT Γ t s x V, bSt Γ s c y p pc, bCo Γ c k C, bTs Γ c k tr, bA Γ (t 3) 6 u]) := by
  refine Ci.of (Or.inl rfl) (by decide) (Nat.le_of_ble_eq_true rfl) ?_
  intro pp ee ss mm bb me cd AA QQ XX hnm hA hP hD fin ls hl
  obtain ⟨zx, zb, hml, hown, hts, hK⟩ := id XX
  have hS : va_S AA ss.heap ss.heap [] := va_S.rf
  have hl : lv_has ls 3 [(0, .ref (t 0))] := hl
  refine lv_iconst (v := nI 0) zx zb dX11_mend_0 (by decide) ?_
  refine lv_istore_n (lv' := [(1, .int (nI 0)), (0, .ref (t 0))]) zx zb dX11_mend_1 rfl hl (by decide) rfl (fun ls hl => ?_)
  refine lv_iconst (v := nI 0) zx zb dX11_mend_2 (by decide) ?_
  refine lv_istore_n (lv' := [(2, .int (nI 0)), (1, .int (nI 0)), (0, .ref (t 0))]) zx zb dX11_mend_3 rfl hl (by decide) rfl (fun ls hl => ?_)
  have L4 : ∀ (nn : Nat) (i : Nat) (a : Int32) (g : Nat → Int32), (i ≤ C.2.2.2.2.2.2.1) → (a = meS tr f i) → (g = meF tr f i) → C.2.2.2.2.2.2.1 - i < nn → ∀ (H : Heap) (locs : List Loc), bP Γ [bTT Γ t s x V, bSt Γ s c y p pc, bCo Γ c k C, bTs Γ c k tr, bA Γ (t 3) 6 g] H → bD AA [bTT Γ t s x V, bSt Γ s c y p pc, bCo Γ c k C, bTs Γ c k tr, bA Γ (t 3) 6 g] → va_S AA ss.heap H locs → ∀ (ls : Array Slot), lv_has ls 3 [(0, .ref (t 0)), (1, .int a), (2, .int (nI i))] → W pp l ee { frames := 2, cells := 0, slots := 0, locals := 48 } ss mm [.ref (t 0)].toArray bb me cd H locs 0 0 QQ (F0 mm 4 ls []) := by
    intro nn
    induction nn with
    | zero => intro i a g hi ha hg hm; exact absurd hm (Nat.not_lt_zero _)
    | succ nn ih4 =>
      intro i a g hi ha hg hm4 H locs hP hD hS ls hl
      refine lv_iload_n zx zb dX11_mend_4 rfl (lv_at hl 2 rfl) ?_
      refine lv_aload_n zx zb dX11_mend_5 rfl (lv_at hl 0 rfl) ?_
      refine g_get (v := .ref (s 0)) XX hP 0 0 rfl rfl rfl iwX11 0 (by decide) fl_X11_30 rfl dX11_mend_6 ?_
      refine g_get (v := .ref (c 0)) XX hP 1 0 rfl rfl rfl iwX8 0 (by decide) fl_X11_100 rfl dX11_mend_9 ?_
      refine g_get (v := .int (nI (C.2.2.2.2.2.2.1))) XX hP 2 0 rfl rfl rfl iwX2 8 (by decide) fl_X11_216 rfl dX11_mend_12 ?_
      refine lv_icmp_ge (tgt := 60) zx zb dX11_mend_15 (by decide) (fun c_15 => ?_) (fun c_15 => ?_)
      · have c_15 : C.2.2.2.2.2.2.1 ≤ i := (nI_leI (a := C.2.2.2.2.2.2.1) (b := i) (by omega) (by omega)).mp c_15
        refine lv_iload_n zx zb dX11_mend_60 rfl (lv_at hl 1 rfl) ?_
        exact fin _ _ a g 61 _ dX11_mend_61 (fun h => by cases h) (by have e : i = C.2.2.2.2.2.2.1 := (by omega); subst e; exact ha) hP hD hS
      · have c_15 : ¬ (C.2.2.2.2.2.2.1 ≤ i) := fun h => c_15 ((nI_leI (a := C.2.2.2.2.2.2.1) (b := i) (by omega) (by omega)).mpr h)
        refine lv_aload_n zx zb dX11_mend_18 rfl (lv_at hl 0 rfl) ?_
        refine g_get (v := .ref (t 3)) XX hP 0 0 rfl rfl rfl iwX11 4 (by decide) fl_X11_50 rfl dX11_mend_19 ?_
        refine lv_iload_n zx zb dX11_mend_22 rfl (lv_at hl 2 rfl) ?_
        refine lv_aload_n zx zb dX11_mend_23 rfl (lv_at hl 0 rfl) ?_
        refine lv_iload_n zx zb dX11_mend_24 rfl (lv_at hl 2 rfl) ?_
        refine call_Vi (As := [.int (nI i)]) (rest := [.int (nI i), .ref (t 3)]) XX cv_X11_240 (c_X11_tillBesideLesser Γ l t s x V c k y p pc C tr g i (by omega)) hP hD hS hA [0, 1, 2, 3, 4] (by decide) rfl (fun _ => rfl) 0 0 rfl rfl rfl rfl hl.1 rfl ⟨⟨by decide, by decide⟩, by decide, by decide⟩ (Nat.le_of_ble_eq_true rfl) dX11_mend_25 (fun r_25 u H locs hw hP hD hS => ?_)
        have hw := hw.symm
        subst hw
        have hP : bP Γ [bTT Γ t s x V, bSt Γ s c y p pc, bCo Γ c k C, bTs Γ c k tr, bA Γ (t 3) 6 g] H := hP
        have hD : bD AA [bTT Γ t s x V, bSt Γ s c y p pc, bCo Γ c k C, bTs Γ c k tr, bA Γ (t 3) 6 g] := hD
        refine g_iastN (x := tillB tr g i i) (i := i) (blk' := bA Γ (t 3) 6 (upd g i (tillB tr g i i))) (bs' := [bTT Γ t s x V, bSt Γ s c y p pc, bCo Γ c k C, bTs Γ c k tr, bA Γ (t 3) 6 (upd g i (tillB tr g i i))]) XX hP hD hS 4 0 rfl rfl (by omega) (by decide) rfl rfl dX11_mend_28 (fun H locs hP hD hS => ?_)
        refine lv_iload_n zx zb dX11_mend_29 rfl (lv_at hl 1 rfl) ?_
        refine lv_aload_n zx zb dX11_mend_30 rfl (lv_at hl 0 rfl) ?_
        refine g_get (v := .ref (s 0)) XX hP 0 0 rfl rfl rfl iwX11 0 (by decide) fl_X11_30 rfl dX11_mend_31 ?_
        refine g_get (v := .ref (c 0)) XX hP 1 0 rfl rfl rfl iwX8 0 (by decide) fl_X11_100 rfl dX11_mend_34 ?_
        refine g_get (v := .ref (c 5)) XX hP 2 0 rfl rfl rfl iwX2 7 (by decide) fl_X11_104 rfl dX11_mend_37 ?_
        refine lv_iload_n zx zb dX11_mend_40 rfl (lv_at hl 2 rfl) ?_
        refine g_aald (i := i) (v := c (6 + i)) XX hP 2 5 4 rfl rfl rfl (by omega) (by decide) rfl dX11_mend_41 ?_
        refine g_get (v := .int ((tr i).2.2.2.2.2.1)) XX hP 3 i rfl (bTs_at Γ c k tr (by omega)) rfl iwX9 5 (by decide) fl_X11_118 rfl dX11_mend_42 ?_
        refine lv_aload_n zx zb dX11_mend_45 rfl (lv_at hl 0 rfl) ?_
        refine g_get (v := .ref (t 3)) XX hP 0 0 rfl rfl rfl iwX11 4 (by decide) fl_X11_50 rfl dX11_mend_46 ?_
        refine lv_iload_n zx zb dX11_mend_49 rfl (lv_at hl 2 rfl) ?_
        refine g_ialdN (i := i) XX hP 4 0 rfl rfl (by omega) (by decide) dX11_mend_50 ?_
        refine lv_isub zx zb dX11_mend_51 ?_
        refine lv_iadd zx zb dX11_mend_52 ?_
        refine lv_istore_n (lv' := [(1, .int (a + (((tr i).2.2.2.2.2.1) - ((upd g i (tillB tr g i i)) i)))), (0, .ref (t 0)), (2, .int (nI i))]) zx zb dX11_mend_53 rfl hl (by decide) rfl (fun ls hl => ?_)
        refine lv_iinc (v := nI (i + 1)) (lv' := [(2, .int (nI (i + 1))), (1, .int (a + (((tr i).2.2.2.2.2.1) - ((upd g i (tillB tr g i i)) i)))), (0, .ref (t 0))]) zx zb dX11_mend_54 hl (k := 2) rfl (nI_inc _ 1) (by decide) rfl (fun ls hl => ?_)
        refine lv_goto (tgt := 4) zx zb dX11_mend_57 (by decide) ?_
        exact ih4 (i + 1) (a + (((tr i).2.2.2.2.2.1) - ((upd g i (tillB tr g i i)) i))) (upd g i (tillB tr g i i)) (by omega) (by rw [meS, ← ha, ← hg]; simp only [pk_us]) (by rw [meF, ← hg]) (by omega) _ _ hP hD hS _ (lv_sub hl [2, 1, 0] rfl)
  exact L4 _ 0 0 f (by omega) (rfl) (rfl) (Nat.lt_succ_self _) _ _ hP hD hS _ (lv_sub hl [2, 1, 0] rfl)

set_option maxHeartbeats 4000000 in
set_option maxRecDepth 100000 in
theorem c_X11_letsIn (Γ : GG) (l : Launch) (t : Nat → Nat) (s : Nat → Nat) (x : Nat → Nat) (V : V3) (c : Nat → Nat) (k : Nat → Nat) (y : Nat → Nat) (p : Nat → Nat → Nat) (pc : Nat) (C : CoV) (tr : Nat → TrV) (Y : YrV) (a : Int32) (w : Int32) (hn : C.1 ≤ 8) (htc : C.2.2.2.2.2.2.1 ≤ 6) (hkd : ∀ i, i < 6 → (tr i).1 < 6) : Ci Γ l yX11_letsIn cX11_letsIn 5 (some (.int)) 4 90 0 0 [.ref (t 0), .int a, .int w] [bTT Γ t s x V, bSt Γ s c y p pc, bCo Γ c k C, bTs Γ c k tr, bKd Γ k, bYr Γ y Y] (fun (r : Int32) (u : V3) => r = leR C tr Y a w ∧ u = stV V (leOk a w)) (fun (u : V3) => [bTT Γ t s x u, bSt Γ s c y p pc, bCo Γ c k C, bTs Γ c k tr, bKd Γ k, bYr Γ y Y]) := by
  refine Ci.of (Or.inl rfl) (by decide) (Nat.le_of_ble_eq_true rfl) ?_
  intro pp ee ss mm bb me cd AA QQ XX hnm hA hP hD fin ls hl
  obtain ⟨zx, zb, hml, hown, hts, hK⟩ := id XX
  have hS : va_S AA ss.heap ss.heap [] := va_S.rf
  have hl : lv_has ls 5 [(0, .ref (t 0)), (1, .int a), (2, .int w)] := hl
  refine lv_iload_n zx zb dX11_letsIn_0 rfl (lv_at hl 1 rfl) ?_
  refine callR_Si (As := [.int a]) (rest := []) XX cs_X11_243 (c_X11_isTown Γ l a ) hP hD hS hA nil_mem nil_D rfl hl.1 rfl ⟨⟨by decide, by decide⟩, by decide, by decide⟩ (Nat.le_of_ble_eq_true rfl) dX11_letsIn_1 (fun r_1 H locs hw hP hS => ?_)
  have hw := hw.symm
  subst hw
  refine lv_if_eq (tgt := 16) zx zb dX11_letsIn_4 (by decide) (fun c_4 => ?_) (fun c_4 => ?_)
  · have c_4 : (wi a 0 2) = false := bI_0.mp c_4
    refine lv_aload_n zx zb dX11_letsIn_16 rfl (lv_at hl 0 rfl) ?_
    refine lv_bipush (v := (-2)) zx zb dX11_letsIn_17 (by decide) ?_
    refine lv_bipush (v := (-2)) zx zb dX11_letsIn_19 (by decide) ?_
    refine call_Vi (As := [.int (-2), .int (-2)]) (rest := []) XX cv_X11_79 (c_X11_refused Γ l t s x V (-2) (-2) ) hP hD hS hA [0] (by decide) rfl (fun _ => rfl) 0 0 rfl rfl rfl rfl hl.1 rfl ⟨⟨by decide, by decide⟩, by decide, by decide⟩ (Nat.le_of_ble_eq_true rfl) dX11_letsIn_21 (fun r_21 u H locs hw hP hD hS => ?_)
    obtain ⟨hw1, hw2⟩ := hw
    have hw1 := hw1.symm
    have hw2 := hw2.symm
    subst hw1
    subst hw2
    have hP : bP Γ [bTT Γ t s x (ttRef V (-2)), bSt Γ s c y p pc, bCo Γ c k C, bTs Γ c k tr, bKd Γ k, bYr Γ y Y] H := hP
    have hD : bD AA [bTT Γ t s x (ttRef V (-2)), bSt Γ s c y p pc, bCo Γ c k C, bTs Γ c k tr, bKd Γ k, bYr Γ y Y] := hD
    exact fin _ _ (-2) (ttRef V (-2)) 24 _ dX11_letsIn_24 (fun h => by cases h) ⟨(by simp [leR, leOk, c_4]), (by simp only [stV, leOk, c_4, ttRef_b, Bool.false_and, Bool.and_false]; rfl)⟩ hP hD hS
  · have c_4 : (wi a 0 2) = true := bI_ne c_4
    refine lv_iload_n zx zb dX11_letsIn_7 rfl (lv_at hl 2 rfl) ?_
    refine lv_iconst (v := nI 0) zx zb dX11_letsIn_8 (by decide) ?_
    refine lv_iconst (v := nI 1) zx zb dX11_letsIn_9 (by decide) ?_
    refine callR_Si (As := [.int w, .int (nI 0), .int (nI 1)]) (rest := []) XX cs_X11_75 (c_X11_within Γ l w 0 1 ) hP hD hS hA nil_mem nil_D rfl hl.1 rfl ⟨⟨by decide, by decide⟩, by decide, by decide⟩ (Nat.le_of_ble_eq_true rfl) dX11_letsIn_10 (fun r_10 H locs hw hP hS => ?_)
    have hw := hw.symm
    subst hw
    refine lv_if_ne (tgt := 25) zx zb dX11_letsIn_13 (by decide) (fun c_13 => ?_) (fun c_13 => ?_)
    · have c_13 : (wi w 0 1) = true := bI_ne c_13
      refine lv_aload_n zx zb dX11_letsIn_25 rfl (lv_at hl 0 rfl) ?_
      refine g_get (v := .ref (s 0)) XX hP 0 0 rfl rfl rfl iwX11 0 (by decide) fl_X11_30 rfl dX11_letsIn_26 ?_
      refine g_get (v := .ref (c 0)) XX hP 1 0 rfl rfl rfl iwX8 0 (by decide) fl_X11_100 rfl dX11_letsIn_29 ?_
      refine lv_iload_n zx zb dX11_letsIn_32 rfl (lv_at hl 1 rfl) ?_
      refine call_Vi (As := [.int a]) (rest := []) XX cv_X11_246 (c_X2_cellsOfTown Γ l c k C a (hn)) hP hD hS hA [2] (by decide) rfl (fun _ => rfl) 2 0 rfl rfl rfl rfl hl.1 rfl ⟨⟨by decide, by decide⟩, by decide, by decide⟩ (Nat.le_of_ble_eq_true rfl) dX11_letsIn_33 (fun r_33 u H locs hw hP hD hS => ?_)
      have hw := hw.symm
      subst hw
      have hP : bP Γ [bTT Γ t s x V, bSt Γ s c y p pc, bCo Γ c k C, bTs Γ c k tr, bKd Γ k, bYr Γ y Y] H := hP
      have hD : bD AA [bTT Γ t s x V, bSt Γ s c y p pc, bCo Γ c k C, bTs Γ c k tr, bKd Γ k, bYr Γ y Y] := hD
      refine lv_istore_n (lv' := [(3, .int (coTown C a C.1)), (0, .ref (t 0)), (1, .int a), (2, .int w)]) zx zb dX11_letsIn_36 rfl hl (by decide) rfl (fun ls hl => ?_)
      refine lv_aload_n zx zb dX11_letsIn_37 rfl (lv_at hl 1 rfl) ?_
      refine lv_iload_n zx zb dX11_letsIn_38 rfl (lv_at hl 0 rfl) ?_
      refine call_Vi (As := [.int (coTown C a C.1)]) (rest := []) XX cv_X11_203 (c_X11_wetWithout Γ l t s x V c k y p pc C tr Y (coTown C a C.1) (hn) (htc) (hkd)) hP hD hS hA [0, 1, 2, 3, 4, 5] (by decide) rfl (fun _ => rfl) 0 0 rfl rfl rfl rfl hl.1 rfl ⟨⟨by decide, by decide⟩, by decide, by decide⟩ (Nat.le_of_ble_eq_true rfl) dX11_letsIn_39 (fun r_39 u H locs hw hP hD hS => ?_)
      have hw := hw.symm
      subst hw
      have hP : bP Γ [bTT Γ t s x V, bSt Γ s c y p pc, bCo Γ c k C, bTs Γ c k tr, bKd Γ k, bYr Γ y Y] H := hP
      have hD : bD AA [bTT Γ t s x V, bSt Γ s c y p pc, bCo Γ c k C, bTs Γ c k tr, bKd Γ k, bYr Γ y Y] := hD
      refine lv_aload_n zx zb dX11_letsIn_42 rfl (lv_at hl 1 rfl) ?_
      refine lv_iconst (v := nI 0) zx zb dX11_letsIn_43 (by decide) ?_
      refine call_Vi (As := [.int (nI 0)]) (rest := [.int (ttWet C tr Y (coTown C a C.1))]) XX cv_X11_203 (c_X11_wetWithout Γ l t s x V c k y p pc C tr Y 0 (hn) (htc) (hkd)) hP hD hS hA [0, 1, 2, 3, 4, 5] (by decide) rfl (fun _ => rfl) 0 0 rfl rfl rfl rfl hl.1 rfl ⟨⟨by decide, by decide⟩, by decide, by decide⟩ (Nat.le_of_ble_eq_true rfl) dX11_letsIn_44 (fun r_44 u H locs hw hP hD hS => ?_)
      have hw := hw.symm
      subst hw
      have hP : bP Γ [bTT Γ t s x V, bSt Γ s c y p pc, bCo Γ c k C, bTs Γ c k tr, bKd Γ k, bYr Γ y Y] H := hP
      have hD : bD AA [bTT Γ t s x V, bSt Γ s c y p pc, bCo Γ c k C, bTs Γ c k tr, bKd Γ k, bYr Γ y Y] := hD
      refine lv_iconst (v := (-1)) zx zb dX11_letsIn_47 (by decide) ?_
      refine lv_ixor zx zb dX11_letsIn_48 ?_
      refine lv_iand zx zb dX11_letsIn_49 ?_
      refine lv_istore (lv' := [(4, .int ((ttWet C tr Y (coTown C a C.1)) &&& ((ttWet C tr Y 0) ^^^ (-1)))), (3, .int (coTown C a C.1)), (0, .ref (t 0)), (1, .int a), (2, .int w)]) zx zb dX11_letsIn_50 hl (by decide) rfl (fun ls hl => ?_)
      refine lv_aload_n zx zb dX11_letsIn_52 rfl (lv_at hl 2 rfl) ?_
      refine g_get (v := .ref (s 0)) XX hP 0 0 rfl rfl rfl iwX11 0 (by decide) fl_X11_30 rfl dX11_letsIn_53 ?_
      refine lv_iload_n zx zb dX11_letsIn_56 rfl (lv_at hl 4 rfl) ?_
      refine lv_if_ne (tgt := 67) zx zb dX11_letsIn_57 (by decide) (fun c_57 => ?_) (fun c_57 => ?_)
      · have c_57 : ¬ (w = (0 : Int32)) := c_57
        refine lv_iload zx zb dX11_letsIn_67 (lv_at hl 0 rfl) ?_
        refine lv_iload_n zx zb dX11_letsIn_69 rfl (lv_at hl 1 rfl) ?_
        refine lv_iconst (v := (-1)) zx zb dX11_letsIn_70 (by decide) ?_
        refine lv_ixor zx zb dX11_letsIn_71 ?_
        refine lv_iand zx zb dX11_letsIn_72 ?_
        refine call_Vi (As := [.int (((ttWet C tr Y (coTown C a C.1)) &&& ((ttWet C tr Y 0) ^^^ (-1))) &&& ((coTown C a C.1) ^^^ (-1)))]) (rest := []) XX cv_X11_249 (c_X8_worthOf Γ l s c k y p pc C Y (((ttWet C tr Y (coTown C a C.1)) &&& ((ttWet C tr Y 0) ^^^ (-1))) &&& ((coTown C a C.1) ^^^ (-1))) (hn)) hP hD hS hA [1, 2, 5] (by decide) rfl (fun _ => rfl) 1 0 rfl rfl rfl rfl hl.1 rfl ⟨⟨by decide, by decide⟩, by decide, by decide⟩ (Nat.le_of_ble_eq_true rfl) dX11_letsIn_73 (fun r_73 u H locs hw hP hD hS => ?_)
        have hw := hw.symm
        subst hw
        have hP : bP Γ [bTT Γ t s x V, bSt Γ s c y p pc, bCo Γ c k C, bTs Γ c k tr, bKd Γ k, bYr Γ y Y] H := hP
        have hD : bD AA [bTT Γ t s x V, bSt Γ s c y p pc, bCo Γ c k C, bTs Γ c k tr, bKd Γ k, bYr Γ y Y] := hD
        exact fin _ _ (stWorth C Y (((ttWet C tr Y (coTown C a C.1)) &&& ((ttWet C tr Y 0) ^^^ (-1))) &&& ((coTown C a C.1) ^^^ (-1)))) V 76 _ dX11_letsIn_76 (fun h => by cases h) ⟨(by unfold leR leOk; rw [c_4, c_13]; first | (simp only [Bool.and_self, if_true, if_pos c_57]; rfl) | (simp only [Bool.and_self, if_true, if_neg c_57]; rfl)), (by unfold leOk; rw [c_4, c_13]; rfl)⟩ hP hD hS
      · have c_57 : w = (0 : Int32) := c_57
        refine lv_iload zx zb dX11_letsIn_60 (lv_at hl 0 rfl) ?_
        refine lv_iload_n zx zb dX11_letsIn_62 rfl (lv_at hl 1 rfl) ?_
        refine lv_iand zx zb dX11_letsIn_63 ?_
        refine lv_goto (tgt := 73) zx zb dX11_letsIn_64 (by decide) ?_
        refine call_Vi (As := [.int (((ttWet C tr Y (coTown C a C.1)) &&& ((ttWet C tr Y 0) ^^^ (-1))) &&& (coTown C a C.1))]) (rest := []) XX cv_X11_249 (c_X8_worthOf Γ l s c k y p pc C Y (((ttWet C tr Y (coTown C a C.1)) &&& ((ttWet C tr Y 0) ^^^ (-1))) &&& (coTown C a C.1)) (hn)) hP hD hS hA [1, 2, 5] (by decide) rfl (fun _ => rfl) 1 0 rfl rfl rfl rfl hl.1 rfl ⟨⟨by decide, by decide⟩, by decide, by decide⟩ (Nat.le_of_ble_eq_true rfl) dX11_letsIn_73 (fun r_73 u H locs hw hP hD hS => ?_)
        have hw := hw.symm
        subst hw
        have hP : bP Γ [bTT Γ t s x V, bSt Γ s c y p pc, bCo Γ c k C, bTs Γ c k tr, bKd Γ k, bYr Γ y Y] H := hP
        have hD : bD AA [bTT Γ t s x V, bSt Γ s c y p pc, bCo Γ c k C, bTs Γ c k tr, bKd Γ k, bYr Γ y Y] := hD
        exact fin _ _ (stWorth C Y (((ttWet C tr Y (coTown C a C.1)) &&& ((ttWet C tr Y 0) ^^^ (-1))) &&& (coTown C a C.1))) V 76 _ dX11_letsIn_76 (fun h => by cases h) ⟨(by unfold leR leOk; rw [c_4, c_13]; first | (simp only [Bool.and_self, if_true, if_pos c_57]; rfl) | (simp only [Bool.and_self, if_true, if_neg c_57]; rfl)), (by unfold leOk; rw [c_4, c_13]; rfl)⟩ hP hD hS
    · have c_13 : (wi w 0 1) = false := bI_0.mp c_13
      refine lv_aload_n zx zb dX11_letsIn_16 rfl (lv_at hl 0 rfl) ?_
      refine lv_bipush (v := (-2)) zx zb dX11_letsIn_17 (by decide) ?_
      refine lv_bipush (v := (-2)) zx zb dX11_letsIn_19 (by decide) ?_
      refine call_Vi (As := [.int (-2), .int (-2)]) (rest := []) XX cv_X11_79 (c_X11_refused Γ l t s x V (-2) (-2) ) hP hD hS hA [0] (by decide) rfl (fun _ => rfl) 0 0 rfl rfl rfl rfl hl.1 rfl ⟨⟨by decide, by decide⟩, by decide, by decide⟩ (Nat.le_of_ble_eq_true rfl) dX11_letsIn_21 (fun r_21 u H locs hw hP hD hS => ?_)
      obtain ⟨hw1, hw2⟩ := hw
      have hw1 := hw1.symm
      have hw2 := hw2.symm
      subst hw1
      subst hw2
      have hP : bP Γ [bTT Γ t s x (ttRef V (-2)), bSt Γ s c y p pc, bCo Γ c k C, bTs Γ c k tr, bKd Γ k, bYr Γ y Y] H := hP
      have hD : bD AA [bTT Γ t s x (ttRef V (-2)), bSt Γ s c y p pc, bCo Γ c k C, bTs Γ c k tr, bKd Γ k, bYr Γ y Y] := hD
      exact fin _ _ (-2) (ttRef V (-2)) 24 _ dX11_letsIn_24 (fun h => by cases h) ⟨(by simp [leR, leOk, c_4, c_13]), (by simp only [stV, leOk, c_4, c_13, ttRef_b, Bool.false_and, Bool.and_false]; rfl)⟩ hP hD hS

set_option maxHeartbeats 4000000 in
set_option maxRecDepth 100000 in
theorem c_X11_lossOf (Γ : GG) (l : Launch) (t : Nat → Nat) (s : Nat → Nat) (x : Nat → Nat) (V : V3) (c : Nat → Nat) (k : Nat → Nat) (y : Nat → Nat) (p : Nat → Nat → Nat) (pc : Nat) (C : CoV) (tr : Nat → TrV) (Y : YrV) (i : Nat) (q : Int32) (hn : C.1 ≤ 8) (htc : C.2.2.2.2.2.2.1 ≤ 6) (hkd : ∀ i, i < 6 → (tr i).1 < 6) : Ci Γ l yX11_lossOf cX11_lossOf 5 (some (.int)) 4 90 0 0 [.ref (t 0), .int (nI i), .int q] [bTT Γ t s x V, bSt Γ s c y p pc, bCo Γ c k C, bTs Γ c k tr, bKd Γ k, bYr Γ y Y] (fun (r : Int32) (u : Unit) => r = lossV C tr Y i q) (fun (u : Unit) => [bTT Γ t s x V, bSt Γ s c y p pc, bCo Γ c k C, bTs Γ c k tr, bKd Γ k, bYr Γ y Y]) := by
  refine Ci.of (Or.inl rfl) (by decide) (Nat.le_of_ble_eq_true rfl) ?_
  intro pp ee ss mm bb me cd AA QQ XX hnm hA hP hD fin ls hl
  obtain ⟨zx, zb, hml, hown, hts, hK⟩ := id XX
  have hS : va_S AA ss.heap ss.heap [] := va_S.rf
  have hl : lv_has ls 5 [(0, .ref (t 0)), (1, .int (nI i)), (2, .int q)] := hl
  refine lv_iconst (v := nI 0) zx zb dX11_lossOf_0 (by decide) ?_
  refine lv_istore_n (lv' := [(3, .int (nI 0)), (0, .ref (t 0)), (1, .int (nI i)), (2, .int q)]) zx zb dX11_lossOf_1 rfl hl (by decide) rfl (fun ls hl => ?_)
  refine lv_iconst (v := nI 0) zx zb dX11_lossOf_2 (by decide) ?_
  refine lv_istore (lv' := [(4, .int (nI 0)), (3, .int (nI 0)), (0, .ref (t 0)), (1, .int (nI i)), (2, .int q)]) zx zb dX11_lossOf_3 hl (by decide) rfl (fun ls hl => ?_)
  have L5 : ∀ (nn : Nat) (j : Nat) (a : Int32), (j ≤ 3) → (a = bareB C q j) → 3 - j < nn → ∀ (H : Heap) (locs : List Loc), bP Γ [bTT Γ t s x V, bSt Γ s c y p pc, bCo Γ c k C, bTs Γ c k tr, bKd Γ k, bYr Γ y Y] H → bD AA [bTT Γ t s x V, bSt Γ s c y p pc, bCo Γ c k C, bTs Γ c k tr, bKd Γ k, bYr Γ y Y] → va_S AA ss.heap H locs → ∀ (ls : Array Slot), lv_has ls 5 [(0, .ref (t 0)), (1, .int (nI i)), (2, .int q), (3, .int a), (4, .int (nI j))] → W pp l ee { frames := 4, cells := 0, slots := 0, locals := 90 } ss mm [.ref (t 0), .int (nI i), .int q].toArray bb me cd H locs 0 0 QQ (F0 mm 5 ls []) := by
    intro nn
    induction nn with
    | zero => intro j a hj ha hm; exact absurd hm (Nat.not_lt_zero _)
    | succ nn ih5 =>
      intro j a hj ha hm5 H locs hP hD hS ls hl
      refine lv_iload zx zb dX11_lossOf_5 (lv_at hl 4 rfl) ?_
      refine lv_iconst (v := nI 3) zx zb dX11_lossOf_7 (by decide) ?_
      refine lv_icmp_ge (tgt := 41) zx zb dX11_lossOf_8 (by decide) (fun c_8 => ?_) (fun c_8 => ?_)
      · have c_8 : 3 ≤ j := (nI_leI (a := 3) (b := j) (by omega) (by omega)).mp c_8
        refine lv_aload_n zx zb dX11_lossOf_41 rfl (lv_at hl 0 rfl) ?_
        refine g_get (v := .ref (s 0)) XX hP 0 0 rfl rfl rfl iwX11 0 (by decide) fl_X11_30 rfl dX11_lossOf_42 ?_
        refine g_get (v := .ref (c 0)) XX hP 1 0 rfl rfl rfl iwX8 0 (by decide) fl_X11_100 rfl dX11_lossOf_45 ?_
        refine lv_iload_n zx zb dX11_lossOf_48 rfl (lv_at hl 1 rfl) ?_
        refine call_Vi (As := [.int (nI i)]) (rest := []) XX cv_X11_246 (c_X2_cellsOfTown Γ l c k C (nI i) (hn)) hP hD hS hA [2] (by decide) rfl (fun _ => rfl) 2 0 rfl rfl rfl rfl hl.1 rfl ⟨⟨by decide, by decide⟩, by decide, by decide⟩ (Nat.le_of_ble_eq_true rfl) dX11_lossOf_49 (fun r_49 u H locs hw hP hD hS => ?_)
        have hw := hw.symm
        subst hw
        have hP : bP Γ [bTT Γ t s x V, bSt Γ s c y p pc, bCo Γ c k C, bTs Γ c k tr, bKd Γ k, bYr Γ y Y] H := hP
        have hD : bD AA [bTT Γ t s x V, bSt Γ s c y p pc, bCo Γ c k C, bTs Γ c k tr, bKd Γ k, bYr Γ y Y] := hD
        refine lv_istore (lv' := [(4, .int (coTown C (nI i) C.1)), (0, .ref (t 0)), (1, .int (nI i)), (2, .int q), (3, .int a)]) zx zb dX11_lossOf_52 hl (by decide) rfl (fun ls hl => ?_)
        refine lv_aload_n zx zb dX11_lossOf_54 rfl (lv_at hl 1 rfl) ?_
        refine g_get (v := .ref (s 0)) XX hP 0 0 rfl rfl rfl iwX11 0 (by decide) fl_X11_30 rfl dX11_lossOf_55 ?_
        refine g_get (v := .ref (y 0)) XX hP 1 0 rfl rfl rfl iwX8 1 (by decide) fl_X11_82 rfl dX11_lossOf_58 ?_
        refine lv_iload zx zb dX11_lossOf_61 (lv_at hl 0 rfl) ?_
        refine lv_iload_n zx zb dX11_lossOf_63 rfl (lv_at hl 4 rfl) ?_
        refine lv_iconst (v := (-1)) zx zb dX11_lossOf_64 (by decide) ?_
        refine lv_ixor zx zb dX11_lossOf_65 ?_
        refine lv_iand zx zb dX11_lossOf_66 ?_
        refine call_Vi (As := [.int ((coTown C (nI i) C.1) &&& (a ^^^ (-1)))]) (rest := []) XX cv_X11_368 (c_X10_feetOf Γ l y Y ((coTown C (nI i) C.1) &&& (a ^^^ (-1))) ) hP hD hS hA [5] (by decide) rfl (fun _ => rfl) 5 0 rfl rfl rfl rfl hl.1 rfl ⟨⟨by decide, by decide⟩, by decide, by decide⟩ (Nat.le_of_ble_eq_true rfl) dX11_lossOf_67 (fun r_67 u H locs hw hP hD hS => ?_)
        have hw := hw.symm
        subst hw
        have hP : bP Γ [bTT Γ t s x V, bSt Γ s c y p pc, bCo Γ c k C, bTs Γ c k tr, bKd Γ k, bYr Γ y Y] H := hP
        have hD : bD AA [bTT Γ t s x V, bSt Γ s c y p pc, bCo Γ c k C, bTs Γ c k tr, bKd Γ k, bYr Γ y Y] := hD
        refine lv_aload_n zx zb dX11_lossOf_70 rfl (lv_at hl 1 rfl) ?_
        refine g_get (v := .ref (s 0)) XX hP 0 0 rfl rfl rfl iwX11 0 (by decide) fl_X11_30 rfl dX11_lossOf_71 ?_
        refine lv_aload_n zx zb dX11_lossOf_74 rfl (lv_at hl 1 rfl) ?_
        refine lv_iload_n zx zb dX11_lossOf_75 rfl (lv_at hl 4 rfl) ?_
        refine call_Vi (As := [.int a]) (rest := [.ref (s 0), .int (yrFeet Y ((coTown C (nI i) C.1) &&& (a ^^^ (-1))) 8)]) XX cv_X11_203 (c_X11_wetWithout Γ l t s x V c k y p pc C tr Y a (hn) (htc) (hkd)) hP hD hS hA [0, 1, 2, 3, 4, 5] (by decide) rfl (fun _ => rfl) 0 0 rfl rfl rfl rfl hl.1 rfl ⟨⟨by decide, by decide⟩, by decide, by decide⟩ (Nat.le_of_ble_eq_true rfl) dX11_lossOf_76 (fun r_76 u H locs hw hP hD hS => ?_)
        have hw := hw.symm
        subst hw
        have hP : bP Γ [bTT Γ t s x V, bSt Γ s c y p pc, bCo Γ c k C, bTs Γ c k tr, bKd Γ k, bYr Γ y Y] H := hP
        have hD : bD AA [bTT Γ t s x V, bSt Γ s c y p pc, bCo Γ c k C, bTs Γ c k tr, bKd Γ k, bYr Γ y Y] := hD
        refine lv_iload zx zb dX11_lossOf_79 (lv_at hl 0 rfl) ?_
        refine lv_iand zx zb dX11_lossOf_81 ?_
        refine call_Vi (As := [.int ((ttWet C tr Y a) &&& (coTown C (nI i) C.1))]) (rest := [.int (yrFeet Y ((coTown C (nI i) C.1) &&& (a ^^^ (-1))) 8)]) XX cv_X11_249 (c_X8_worthOf Γ l s c k y p pc C Y ((ttWet C tr Y a) &&& (coTown C (nI i) C.1)) (hn)) hP hD hS hA [1, 2, 5] (by decide) rfl (fun _ => rfl) 1 0 rfl rfl rfl rfl hl.1 rfl ⟨⟨by decide, by decide⟩, by decide, by decide⟩ (Nat.le_of_ble_eq_true rfl) dX11_lossOf_82 (fun r_82 u H locs hw hP hD hS => ?_)
        have hw := hw.symm
        subst hw
        have hP : bP Γ [bTT Γ t s x V, bSt Γ s c y p pc, bCo Γ c k C, bTs Γ c k tr, bKd Γ k, bYr Γ y Y] H := hP
        have hD : bD AA [bTT Γ t s x V, bSt Γ s c y p pc, bCo Γ c k C, bTs Γ c k tr, bKd Γ k, bYr Γ y Y] := hD
        refine lv_iadd zx zb dX11_lossOf_85 ?_
        exact fin _ _ ((yrFeet Y ((coTown C (nI i) C.1) &&& (a ^^^ (-1))) 8) + (stWorth C Y ((ttWet C tr Y a) &&& (coTown C (nI i) C.1)))) () 86 _ dX11_lossOf_86 (fun h => by cases h) (by have e : j = 3 := (by omega); subst e; rw [ha]; rfl) hP hD hS
      · have c_8 : ¬ (3 ≤ j) := fun h => c_8 ((nI_leI (a := 3) (b := j) (by omega) (by omega)).mpr h)
        refine lv_iload_n zx zb dX11_lossOf_11 rfl (lv_at hl 2 rfl) ?_
        refine lv_iconst (v := nI 1) zx zb dX11_lossOf_12 (by decide) ?_
        refine lv_iload zx zb dX11_lossOf_13 (lv_at hl 4 rfl) ?_
        refine lv_ishl zx zb dX11_lossOf_15 ?_
        refine g_top (y := bit j) (sh31l _ (by omega)) ?_
        refine lv_iand zx zb dX11_lossOf_16 ?_
        refine lv_if_ne (tgt := 35) zx zb dX11_lossOf_17 (by decide) (fun c_17 => ?_) (fun c_17 => ?_)
        · have c_17 : hasB q j = true := hasB_t.mp c_17
          refine lv_iinc (v := nI (j + 1)) (lv' := [(4, .int (nI (j + 1))), (0, .ref (t 0)), (1, .int (nI i)), (2, .int q), (3, .int a)]) zx zb dX11_lossOf_35 hl (k := 4) rfl (nI_inc _ 1) (by decide) rfl (fun ls hl => ?_)
          refine lv_goto (tgt := 5) zx zb dX11_lossOf_38 (by decide) ?_
          exact ih5 (j + 1) a (by omega) (by rw [bareB, ← ha, c_17]; rfl) (by omega) _ _ hP hD hS _ (lv_sub hl [1, 2, 3, 4, 0] rfl)
        · have c_17 : hasB q j = false := hasB_f.mp c_17
          refine lv_iload_n zx zb dX11_lossOf_20 rfl (lv_at hl 3 rfl) ?_
          refine lv_aload_n zx zb dX11_lossOf_21 rfl (lv_at hl 0 rfl) ?_
          refine g_get (v := .ref (s 0)) XX hP 0 0 rfl rfl rfl iwX11 0 (by decide) fl_X11_30 rfl dX11_lossOf_22 ?_
          refine g_get (v := .ref (c 0)) XX hP 1 0 rfl rfl rfl iwX8 0 (by decide) fl_X11_100 rfl dX11_lossOf_25 ?_
          refine lv_iload zx zb dX11_lossOf_28 (lv_at hl 4 rfl) ?_
          refine call_Vi (As := [.int (nI j)]) (rest := [.int a]) XX cv_X11_246 (c_X2_cellsOfTown Γ l c k C (nI j) (hn)) hP hD hS hA [2] (by decide) rfl (fun _ => rfl) 2 0 rfl rfl rfl rfl hl.1 rfl ⟨⟨by decide, by decide⟩, by decide, by decide⟩ (Nat.le_of_ble_eq_true rfl) dX11_lossOf_30 (fun r_30 u H locs hw hP hD hS => ?_)
          have hw := hw.symm
          subst hw
          have hP : bP Γ [bTT Γ t s x V, bSt Γ s c y p pc, bCo Γ c k C, bTs Γ c k tr, bKd Γ k, bYr Γ y Y] H := hP
          have hD : bD AA [bTT Γ t s x V, bSt Γ s c y p pc, bCo Γ c k C, bTs Γ c k tr, bKd Γ k, bYr Γ y Y] := hD
          refine lv_ior zx zb dX11_lossOf_33 ?_
          refine lv_istore_n (lv' := [(3, .int (a ||| (coTown C (nI j) C.1))), (0, .ref (t 0)), (1, .int (nI i)), (2, .int q), (4, .int (nI j))]) zx zb dX11_lossOf_34 rfl hl (by decide) rfl (fun ls hl => ?_)
          refine lv_iinc (v := nI (j + 1)) (lv' := [(4, .int (nI (j + 1))), (3, .int (a ||| (coTown C (nI j) C.1))), (0, .ref (t 0)), (1, .int (nI i)), (2, .int q)]) zx zb dX11_lossOf_35 hl (k := 4) rfl (nI_inc _ 1) (by decide) rfl (fun ls hl => ?_)
          refine lv_goto (tgt := 5) zx zb dX11_lossOf_38 (by decide) ?_
          exact ih5 (j + 1) (a ||| (coTown C (nI j) C.1)) (by omega) (by rw [bareB, ← ha, c_17]; rfl) (by omega) _ _ hP hD hS _ (lv_sub hl [2, 3, 4, 1, 0] rfl)
  exact L5 _ 0 0 (by omega) (rfl) (Nat.lt_succ_self _) _ _ hP hD hS _ (lv_sub hl [2, 3, 4, 1, 0] rfl)

set_option maxHeartbeats 4000000 in
set_option maxRecDepth 100000 in
theorem c_X11_isRest (Γ : GG) (l : Launch) (t : Nat → Nat) (s : Nat → Nat) (x : Nat → Nat) (V : V3) (c : Nat → Nat) (k : Nat → Nat) (y : Nat → Nat) (p : Nat → Nat → Nat) (pc : Nat) (C : CoV) (tr : Nat → TrV) (Y : YrV) (q : Int32) (hn : C.1 ≤ 8) (htc : C.2.2.2.2.2.2.1 ≤ 6) (hkd : ∀ i, i < 6 → (tr i).1 < 6) : Ci Γ l yX11_isRest cX11_isRest 3 (some (.boolean)) 5 114 0 0 [.ref (t 0), .int q] [bTT Γ t s x V, bSt Γ s c y p pc, bCo Γ c k C, bTs Γ c k tr, bKd Γ k, bYr Γ y Y] (fun (r : Int32) (u : Unit) => r = bI (allN (restP C tr Y q) 3)) (fun (u : Unit) => [bTT Γ t s x V, bSt Γ s c y p pc, bCo Γ c k C, bTs Γ c k tr, bKd Γ k, bYr Γ y Y]) := by
  refine Ci.of (Or.inr rfl) (by decide) (Nat.le_of_ble_eq_true rfl) ?_
  intro pp ee ss mm bb me cd AA QQ XX hnm hA hP hD fin ls hl
  obtain ⟨zx, zb, hml, hown, hts, hK⟩ := id XX
  have hS : va_S AA ss.heap ss.heap [] := va_S.rf
  have hl : lv_has ls 3 [(0, .ref (t 0)), (1, .int q)] := hl
  refine lv_iconst (v := nI 0) zx zb dX11_isRest_0 (by decide) ?_
  refine lv_istore_n (lv' := [(2, .int (nI 0)), (0, .ref (t 0)), (1, .int q)]) zx zb dX11_isRest_1 rfl hl (by decide) rfl (fun ls hl => ?_)
  have L2 : ∀ (nn : Nat) (i : Nat), (i ≤ 3) → (allN (restP C tr Y q) i = true) → 3 - i < nn → ∀ (H : Heap) (locs : List Loc), bP Γ [bTT Γ t s x V, bSt Γ s c y p pc, bCo Γ c k C, bTs Γ c k tr, bKd Γ k, bYr Γ y Y] H → bD AA [bTT Γ t s x V, bSt Γ s c y p pc, bCo Γ c k C, bTs Γ c k tr, bKd Γ k, bYr Γ y Y] → va_S AA ss.heap H locs → ∀ (ls : Array Slot), lv_has ls 3 [(0, .ref (t 0)), (1, .int q), (2, .int (nI i))] → W pp l ee { frames := 5, cells := 0, slots := 0, locals := 114 } ss mm [.ref (t 0), .int q].toArray bb me cd H locs 0 0 QQ (F0 mm 2 ls []) := by
    intro nn
    induction nn with
    | zero => intro i hi ha hm; exact absurd hm (Nat.not_lt_zero _)
    | succ nn ih2 =>
      intro i hi ha hm2 H locs hP hD hS ls hl
      refine lv_iload_n zx zb dX11_isRest_2 rfl (lv_at hl 2 rfl) ?_
      refine lv_iconst (v := nI 3) zx zb dX11_isRest_3 (by decide) ?_
      refine lv_icmp_ge (tgt := 34) zx zb dX11_isRest_4 (by decide) (fun c_4 => ?_) (fun c_4 => ?_)
      · have c_4 : 3 ≤ i := (nI_leI (a := 3) (b := i) (by omega) (by omega)).mp c_4
        refine lv_iconst (v := nI 1) zx zb dX11_isRest_34 (by decide) ?_
        exact fin _ _ (nI 1) () 35 _ dX11_isRest_35 (fun _ => nar1) (by have e : i = 3 := (by omega); subst e; exact retT ha) hP hD hS
      · have c_4 : ¬ (3 ≤ i) := fun h => c_4 ((nI_leI (a := 3) (b := i) (by omega) (by omega)).mpr h)
        refine lv_aload_n zx zb dX11_isRest_7 rfl (lv_at hl 0 rfl) ?_
        refine lv_iload_n zx zb dX11_isRest_8 rfl (lv_at hl 2 rfl) ?_
        refine lv_iload_n zx zb dX11_isRest_9 rfl (lv_at hl 1 rfl) ?_
        refine lv_iconst (v := nI 1) zx zb dX11_isRest_10 (by decide) ?_
        refine lv_iload_n zx zb dX11_isRest_11 rfl (lv_at hl 2 rfl) ?_
        refine lv_ishl zx zb dX11_isRest_12 ?_
        refine g_top (y := bit i) (sh31l _ (by omega)) ?_
        refine lv_ixor zx zb dX11_isRest_13 ?_
        refine call_Vi (As := [.int (nI i), .int (q ^^^ (bit i))]) (rest := []) XX cv_X11_365 (c_X11_lossOf Γ l t s x V c k y p pc C tr Y i (q ^^^ (bit i)) (hn) (htc) (hkd)) hP hD hS hA [0, 1, 2, 3, 4, 5] (by decide) rfl (fun _ => rfl) 0 0 rfl rfl rfl rfl hl.1 rfl ⟨⟨by decide, by decide⟩, by decide, by decide⟩ (Nat.le_of_ble_eq_true rfl) dX11_isRest_14 (fun r_14 u H locs hw hP hD hS => ?_)
        have hw := hw.symm
        subst hw
        have hP : bP Γ [bTT Γ t s x V, bSt Γ s c y p pc, bCo Γ c k C, bTs Γ c k tr, bKd Γ k, bYr Γ y Y] H := hP
        have hD : bD AA [bTT Γ t s x V, bSt Γ s c y p pc, bCo Γ c k C, bTs Γ c k tr, bKd Γ k, bYr Γ y Y] := hD
        refine lv_aload_n zx zb dX11_isRest_17 rfl (lv_at hl 0 rfl) ?_
        refine lv_iload_n zx zb dX11_isRest_18 rfl (lv_at hl 2 rfl) ?_
        refine lv_iload_n zx zb dX11_isRest_19 rfl (lv_at hl 1 rfl) ?_
        refine call_Vi (As := [.int (nI i), .int q]) (rest := [.int (lossV C tr Y i (q ^^^ (bit i)))]) XX cv_X11_365 (c_X11_lossOf Γ l t s x V c k y p pc C tr Y i q (hn) (htc) (hkd)) hP hD hS hA [0, 1, 2, 3, 4, 5] (by decide) rfl (fun _ => rfl) 0 0 rfl rfl rfl rfl hl.1 rfl ⟨⟨by decide, by decide⟩, by decide, by decide⟩ (Nat.le_of_ble_eq_true rfl) dX11_isRest_20 (fun r_20 u H locs hw hP hD hS => ?_)
        have hw := hw.symm
        subst hw
        have hP : bP Γ [bTT Γ t s x V, bSt Γ s c y p pc, bCo Γ c k C, bTs Γ c k tr, bKd Γ k, bYr Γ y Y] H := hP
        have hD : bD AA [bTT Γ t s x V, bSt Γ s c y p pc, bCo Γ c k C, bTs Γ c k tr, bKd Γ k, bYr Γ y Y] := hD
        refine lv_icmp_ge (tgt := 28) zx zb dX11_isRest_23 (by decide) (fun c_23 => ?_) (fun c_23 => ?_)
        · have c_23 : (lossV C tr Y i q) ≤ (lossV C tr Y i (q ^^^ (bit i))) := c_23
          refine lv_iinc (v := nI (i + 1)) (lv' := [(2, .int (nI (i + 1))), (0, .ref (t 0)), (1, .int q)]) zx zb dX11_isRest_28 hl (k := 2) rfl (nI_inc _ 1) (by decide) rfl (fun ls hl => ?_)
          refine lv_goto (tgt := 2) zx zb dX11_isRest_31 (by decide) ?_
          exact ih2 (i + 1) (by omega) (by rw [allN, ha, Bool.true_and]; unfold restP; simp [Int32.not_lt.mpr c_23]) (by omega) _ _ hP hD hS _ (lv_sub hl [1, 2, 0] rfl)
        · have c_23 : ¬ ((lossV C tr Y i q) ≤ (lossV C tr Y i (q ^^^ (bit i)))) := c_23
          refine lv_iconst (v := nI 0) zx zb dX11_isRest_26 (by decide) ?_
          exact fin _ _ (nI 0) () 27 _ dX11_isRest_27 (fun _ => nar0) (retF (allN_f (i := i) (by omega) (by unfold restP; simp [Int32.not_le.mp c_23]))) hP hD hS
  exact L2 _ 0 (by omega) (rfl) (Nat.lt_succ_self _) _ _ hP hD hS _ (lv_sub hl [1, 2, 0] rfl)

set_option maxHeartbeats 4000000 in
set_option maxRecDepth 100000 in
theorem c_X11_rests (Γ : GG) (l : Launch) (t : Nat → Nat) (s : Nat → Nat) (x : Nat → Nat) (V : V3) (c : Nat → Nat) (k : Nat → Nat) (y : Nat → Nat) (p : Nat → Nat → Nat) (pc : Nat) (C : CoV) (tr : Nat → TrV) (Y : YrV) (w : Int32) (hn : C.1 ≤ 8) (htc : C.2.2.2.2.2.2.1 ≤ 6) (hkd : ∀ i, i < 6 → (tr i).1 < 6) : Ci Γ l yX11_rests cX11_rests 5 (some (.int)) 6 136 0 0 [.ref (t 0), .int w] [bTT Γ t s x V, bSt Γ s c y p pc, bCo Γ c k C, bTs Γ c k tr, bKd Γ k, bYr Γ y Y] (fun (r : Int32) (u : V3) => r = reR C tr Y w ∧ u = stV V (wi w 0 1)) (fun (u : V3) => [bTT Γ t s x u, bSt Γ s c y p pc, bCo Γ c k C, bTs Γ c k tr, bKd Γ k, bYr Γ y Y]) := by
  refine Ci.of (Or.inl rfl) (by decide) (Nat.le_of_ble_eq_true rfl) ?_
  intro pp ee ss mm bb me cd AA QQ XX hnm hA hP hD fin ls hl
  obtain ⟨zx, zb, hml, hown, hts, hK⟩ := id XX
  have hS : va_S AA ss.heap ss.heap [] := va_S.rf
  have hl : lv_has ls 5 [(0, .ref (t 0)), (1, .int w)] := hl
  refine lv_iload_n zx zb dX11_rests_0 rfl (lv_at hl 1 rfl) ?_
  refine lv_iconst (v := nI 0) zx zb dX11_rests_1 (by decide) ?_
  refine lv_iconst (v := nI 1) zx zb dX11_rests_2 (by decide) ?_
  refine callR_Si (As := [.int w, .int (nI 0), .int (nI 1)]) (rest := []) XX cs_X11_75 (c_X11_within Γ l w 0 1 ) hP hD hS hA nil_mem nil_D rfl hl.1 rfl ⟨⟨by decide, by decide⟩, by decide, by decide⟩ (Nat.le_of_ble_eq_true rfl) dX11_rests_3 (fun r_3 H locs hw hP hS => ?_)
  have hw := hw.symm
  subst hw
  refine lv_if_ne (tgt := 18) zx zb dX11_rests_6 (by decide) (fun c_6 => ?_) (fun c_6 => ?_)
  · have c_6 : (wi w 0 1) = true := bI_ne c_6
    refine lv_iconst (v := (-1)) zx zb dX11_rests_18 (by decide) ?_
    refine lv_istore_n (lv' := [(2, .int (-1)), (0, .ref (t 0)), (1, .int w)]) zx zb dX11_rests_19 rfl hl (by decide) rfl (fun ls hl => ?_)
    refine lv_iconst (v := nI 0) zx zb dX11_rests_20 (by decide) ?_
    refine lv_istore_n (lv' := [(3, .int (nI 0)), (2, .int (-1)), (0, .ref (t 0)), (1, .int w)]) zx zb dX11_rests_21 rfl hl (by decide) rfl (fun ls hl => ?_)
    refine lv_iconst (v := nI 0) zx zb dX11_rests_22 (by decide) ?_
    refine lv_istore (lv' := [(4, .int (nI 0)), (3, .int (nI 0)), (2, .int (-1)), (0, .ref (t 0)), (1, .int w)]) zx zb dX11_rests_23 hl (by decide) rfl (fun ls hl => ?_)
    have L25 : ∀ (nn : Nat) (i : Nat) (b : Int32) (n : Nat), (i ≤ 8) → (b = fstN (reP C tr Y) i) → (n = cntN (reP C tr Y) i) → (n ≤ i) → 8 - i < nn → ∀ (H : Heap) (locs : List Loc), bP Γ [bTT Γ t s x V, bSt Γ s c y p pc, bCo Γ c k C, bTs Γ c k tr, bKd Γ k, bYr Γ y Y] H → bD AA [bTT Γ t s x V, bSt Γ s c y p pc, bCo Γ c k C, bTs Γ c k tr, bKd Γ k, bYr Γ y Y] → va_S AA ss.heap H locs → ∀ (ls : Array Slot), lv_has ls 5 [(0, .ref (t 0)), (1, .int w), (2, .int b), (3, .int (nI n)), (4, .int (nI i))] → W pp l ee { frames := 6, cells := 0, slots := 0, locals := 136 } ss mm [.ref (t 0), .int w].toArray bb me cd H locs 0 0 QQ (F0 mm 25 ls []) := by
      intro nn
      induction nn with
      | zero => intro i b n hi hb hc hq hm; exact absurd hm (Nat.not_lt_zero _)
      | succ nn ih25 =>
        intro i b n hi hb hc hq hm25 H locs hP hD hS ls hl
        refine lv_iload zx zb dX11_rests_25 (lv_at hl 4 rfl) ?_
        refine lv_bipush (v := nI 8) zx zb dX11_rests_27 (by decide) ?_
        refine lv_icmp_ge (tgt := 60) zx zb dX11_rests_29 (by decide) (fun c_29 => ?_) (fun c_29 => ?_)
        · have c_29 : 8 ≤ i := (nI_leI (a := 8) (b := i) (by omega) (by omega)).mp c_29
          refine lv_iload_n zx zb dX11_rests_60 rfl (lv_at hl 1 rfl) ?_
          refine lv_if_ne (tgt := 68) zx zb dX11_rests_61 (by decide) (fun c_61 => ?_) (fun c_61 => ?_)
          · have c_61 : ¬ (w = (0 : Int32)) := c_61
            refine lv_iload_n zx zb dX11_rests_68 rfl (lv_at hl 2 rfl) ?_
            exact fin _ _ b V 69 _ dX11_rests_69 (fun h => by cases h) ⟨(by have e : i = 8 := (by omega); subst e; unfold reR; rw [if_pos c_6]; first | (rw [if_pos c_61, hc]; done) | (rw [if_neg c_61, hb]; done)), (by rw [c_6]; rfl)⟩ hP hD hS
          · have c_61 : w = (0 : Int32) := c_61
            refine lv_iload_n zx zb dX11_rests_64 rfl (lv_at hl 3 rfl) ?_
            refine lv_goto (tgt := 69) zx zb dX11_rests_65 (by decide) ?_
            exact fin _ _ (nI n) V 69 _ dX11_rests_69 (fun h => by cases h) ⟨(by have e : i = 8 := (by omega); subst e; unfold reR; rw [if_pos c_6]; first | (rw [if_pos c_61, hc]; done) | (rw [if_neg c_61, hb]; done)), (by rw [c_6]; rfl)⟩ hP hD hS
        · have c_29 : ¬ (8 ≤ i) := fun h => c_29 ((nI_leI (a := 8) (b := i) (by omega) (by omega)).mpr h)
          refine lv_aload_n zx zb dX11_rests_32 rfl (lv_at hl 0 rfl) ?_
          refine lv_iload zx zb dX11_rests_33 (lv_at hl 4 rfl) ?_
          refine call_Vi (As := [.int (nI i)]) (rest := []) XX cv_X11_252 (c_X11_isRest Γ l t s x V c k y p pc C tr Y (nI i) (hn) (htc) (hkd)) hP hD hS hA [0, 1, 2, 3, 4, 5] (by decide) rfl (fun _ => rfl) 0 0 rfl rfl rfl rfl hl.1 rfl ⟨⟨by decide, by decide⟩, by decide, by decide⟩ (Nat.le_of_ble_eq_true rfl) dX11_rests_35 (fun r_35 u H locs hw hP hD hS => ?_)
          have hw := hw.symm
          subst hw
          have hP : bP Γ [bTT Γ t s x V, bSt Γ s c y p pc, bCo Γ c k C, bTs Γ c k tr, bKd Γ k, bYr Γ y Y] H := hP
          have hD : bD AA [bTT Γ t s x V, bSt Γ s c y p pc, bCo Γ c k C, bTs Γ c k tr, bKd Γ k, bYr Γ y Y] := hD
          refine lv_if_ne (tgt := 44) zx zb dX11_rests_38 (by decide) (fun c_38 => ?_) (fun c_38 => ?_)
          · have c_38 : (allN (restP C tr Y (nI i)) 3) = true := bI_ne c_38
            refine lv_iload_n zx zb dX11_rests_44 rfl (lv_at hl 3 rfl) ?_
            refine lv_if_ne (tgt := 51) zx zb dX11_rests_45 (by decide) (fun c_45 => ?_) (fun c_45 => ?_)
            · have c_45 : ¬ (n = 0) := fun h => c_45 ((nI_eq (a := n) (b := 0) (by omega) (by omega)).mpr h)
              refine lv_iinc (v := nI (n + 1)) (lv' := [(3, .int (nI (n + 1))), (0, .ref (t 0)), (1, .int w), (2, .int b), (4, .int (nI i))]) zx zb dX11_rests_51 hl (k := 3) rfl (nI_inc _ 1) (by decide) rfl (fun ls hl => ?_)
              refine lv_iinc (v := nI (i + 1)) (lv' := [(4, .int (nI (i + 1))), (3, .int (nI (n + 1))), (0, .ref (t 0)), (1, .int w), (2, .int b)]) zx zb dX11_rests_54 hl (k := 4) rfl (nI_inc _ 1) (by decide) rfl (fun ls hl => ?_)
              refine lv_goto (tgt := 25) zx zb dX11_rests_57 (by decide) ?_
              exact ih25 (i + 1) b (n + 1) (by omega) (by first | exact fst_no hb c_38 | exact fst_ys hc c_38 c_45 | exact fst_nn hb hc c_38 c_45) (by rw [cntN, ← hc, show reP C tr Y i = _ from c_38]; rfl) (by omega) (by omega) _ _ hP hD hS _ (lv_sub hl [2, 3, 4, 1, 0] rfl)
            · have c_45 : n = 0 := (nI_eq (a := n) (b := 0) (by omega) (by omega)).mp c_45
              refine lv_iload zx zb dX11_rests_48 (lv_at hl 4 rfl) ?_
              refine lv_istore_n (lv' := [(2, .int (nI i)), (0, .ref (t 0)), (1, .int w), (3, .int (nI n)), (4, .int (nI i))]) zx zb dX11_rests_50 rfl hl (by decide) rfl (fun ls hl => ?_)
              refine lv_iinc (v := nI (n + 1)) (lv' := [(3, .int (nI (n + 1))), (2, .int (nI i)), (0, .ref (t 0)), (1, .int w), (4, .int (nI i))]) zx zb dX11_rests_51 hl (k := 3) rfl (nI_inc _ 1) (by decide) rfl (fun ls hl => ?_)
              refine lv_iinc (v := nI (i + 1)) (lv' := [(4, .int (nI (i + 1))), (3, .int (nI (n + 1))), (2, .int (nI i)), (0, .ref (t 0)), (1, .int w)]) zx zb dX11_rests_54 hl (k := 4) rfl (nI_inc _ 1) (by decide) rfl (fun ls hl => ?_)
              refine lv_goto (tgt := 25) zx zb dX11_rests_57 (by decide) ?_
              exact ih25 (i + 1) (nI i) (n + 1) (by omega) (by first | exact fst_no hb c_38 | exact fst_ys hc c_38 c_45 | exact fst_nn hb hc c_38 c_45) (by rw [cntN, ← hc, show reP C tr Y i = _ from c_38]; rfl) (by omega) (by omega) _ _ hP hD hS _ (lv_sub hl [3, 4, 2, 1, 0] rfl)
          · have c_38 : (allN (restP C tr Y (nI i)) 3) = false := bI_0.mp c_38
            refine lv_goto (tgt := 54) zx zb dX11_rests_41 (by decide) ?_
            refine lv_iinc (v := nI (i + 1)) (lv' := [(4, .int (nI (i + 1))), (0, .ref (t 0)), (1, .int w), (2, .int b), (3, .int (nI n))]) zx zb dX11_rests_54 hl (k := 4) rfl (nI_inc _ 1) (by decide) rfl (fun ls hl => ?_)
            refine lv_goto (tgt := 25) zx zb dX11_rests_57 (by decide) ?_
            exact ih25 (i + 1) b n (by omega) (by first | exact fst_no hb c_38 | exact fst_ys hc c_38 c_45 | exact fst_nn hb hc c_38 c_45) (by rw [cntN, ← hc, show reP C tr Y i = _ from c_38]; rfl) (by omega) (by omega) _ _ hP hD hS _ (lv_sub hl [1, 2, 3, 4, 0] rfl)
    exact L25 _ 0 (-1) 0 (by omega) (rfl) (rfl) (by omega) (Nat.lt_succ_self _) _ _ hP hD hS _ (lv_sub hl [3, 4, 2, 1, 0] rfl)
  · have c_6 : (wi w 0 1) = false := bI_0.mp c_6
    refine lv_aload_n zx zb dX11_rests_9 rfl (lv_at hl 0 rfl) ?_
    refine lv_bipush (v := (-2)) zx zb dX11_rests_10 (by decide) ?_
    refine lv_bipush (v := (-10)) zx zb dX11_rests_12 (by decide) ?_
    refine call_Vi (As := [.int (-2), .int (-10)]) (rest := []) XX cv_X11_79 (c_X11_refused Γ l t s x V (-2) (-10) ) hP hD hS hA [0] (by decide) rfl (fun _ => rfl) 0 0 rfl rfl rfl rfl hl.1 rfl ⟨⟨by decide, by decide⟩, by decide, by decide⟩ (Nat.le_of_ble_eq_true rfl) dX11_rests_14 (fun r_14 u H locs hw hP hD hS => ?_)
    obtain ⟨hw1, hw2⟩ := hw
    have hw1 := hw1.symm
    have hw2 := hw2.symm
    subst hw1
    subst hw2
    have hP : bP Γ [bTT Γ t s x (ttRef V (-2)), bSt Γ s c y p pc, bCo Γ c k C, bTs Γ c k tr, bKd Γ k, bYr Γ y Y] H := hP
    have hD : bD AA [bTT Γ t s x (ttRef V (-2)), bSt Γ s c y p pc, bCo Γ c k C, bTs Γ c k tr, bKd Γ k, bYr Γ y Y] := hD
    exact fin _ _ (-10) (ttRef V (-2)) 17 _ dX11_rests_17 (fun h => by cases h) ⟨(by simp [reR, c_6]), (by simp only [stV, c_6, ttRef_b]; rfl)⟩ hP hD hS

set_option maxHeartbeats 4000000 in
set_option maxRecDepth 100000 in
theorem c_X11_wetBy (Γ : GG) (l : Launch) (t : Nat → Nat) (s : Nat → Nat) (x : Nat → Nat) (V : V3) (c : Nat → Nat) (k : Nat → Nat) (y : Nat → Nat) (p : Nat → Nat → Nat) (pc : Nat) (C : CoV) (Y : YrV) (w : Int32) (hn : C.1 ≤ 8) : Ci Γ l yX11_wetBy cX11_wetBy 2 (some (.int)) 1 28 0 0 [.ref (t 0), .int w] [bTT Γ t s x V, bSt Γ s c y p pc, bCo Γ c k C, bYr Γ y Y] (fun (r : Int32) (u : Unit) => r = wetB C Y w) (fun (u : Unit) => [bTT Γ t s x V, bSt Γ s c y p pc, bCo Γ c k C, bYr Γ y Y]) := by
  refine Ci.of (Or.inl rfl) (by decide) (Nat.le_of_ble_eq_true rfl) ?_
  intro pp ee ss mm bb me cd AA QQ XX hnm hA hP hD fin ls hl
  obtain ⟨zx, zb, hml, hown, hts, hK⟩ := id XX
  have hS : va_S AA ss.heap ss.heap [] := va_S.rf
  have hl : lv_has ls 2 [(0, .ref (t 0)), (1, .int w)] := hl
  refine lv_aload_n zx zb dX11_wetBy_0 rfl (lv_at hl 0 rfl) ?_
  refine g_get (v := .ref (s 0)) XX hP 0 0 rfl rfl rfl iwX11 0 (by decide) fl_X11_30 rfl dX11_wetBy_1 ?_
  refine g_get (v := .ref (c 0)) XX hP 1 0 rfl rfl rfl iwX8 0 (by decide) fl_X11_100 rfl dX11_wetBy_4 ?_
  refine lv_iload_n zx zb dX11_wetBy_7 rfl (lv_at hl 1 rfl) ?_
  refine lv_iconst (v := nI 0) zx zb dX11_wetBy_8 (by decide) ?_
  refine lv_aload_n zx zb dX11_wetBy_9 rfl (lv_at hl 0 rfl) ?_
  refine g_get (v := .ref (s 0)) XX hP 0 0 rfl rfl rfl iwX11 0 (by decide) fl_X11_30 rfl dX11_wetBy_10 ?_
  refine g_get (v := .ref (y 0)) XX hP 1 0 rfl rfl rfl iwX8 1 (by decide) fl_X11_82 rfl dX11_wetBy_13 ?_
  refine g_get (v := .ref (y 1)) XX hP 3 0 rfl rfl rfl iwX10 3 (by decide) fl_X11_171 rfl dX11_wetBy_16 ?_
  refine lv_iconst (v := nI 0) zx zb dX11_wetBy_19 (by decide) ?_
  refine call_Vi (As := [.int w, .int (nI 0), .ref (y 1), .int (nI 0)]) (rest := []) XX cv_X11_338 (c_X2_water Γ l c k C y Y w 0 0 (hn)) hP hD hS hA [2, 3] (by decide) rfl (fun _ => rfl) 2 0 rfl rfl rfl rfl hl.1 rfl ⟨⟨by decide, by decide⟩, by decide, by decide⟩ (Nat.le_of_ble_eq_true rfl) dX11_wetBy_20 (fun r_20 u H locs hw hP hD hS => ?_)
  have hw := hw.symm
  subst hw
  have hP : bP Γ [bTT Γ t s x V, bSt Γ s c y p pc, bCo Γ c k C, bYr Γ y Y] H := hP
  have hD : bD AA [bTT Γ t s x V, bSt Γ s c y p pc, bCo Γ c k C, bYr Γ y Y] := hD
  exact fin _ _ (coWater C Y.2.2.2.1 w 0 0) () 23 _ dX11_wetBy_23 (fun h => by cases h) (rfl) hP hD hS

set_option maxHeartbeats 4000000 in
set_option maxRecDepth 100000 in
theorem c_X11_fittingWants (Γ : GG) (l : Launch) (t : Nat → Nat) (s : Nat → Nat) (x : Nat → Nat) (V : V3) (c : Nat → Nat) (k : Nat → Nat) (y : Nat → Nat) (p : Nat → Nat → Nat) (pc : Nat) (C : CoV) (Y : YrV) (q : Int32) (hn : C.1 ≤ 8) (hdc : C.2.2.2.2.2.2.2.1 ≤ 6) : Ci Γ l yX11_fittingWants cX11_fittingWants 4 (some (.int)) 2 49 0 0 [.ref (t 0), .int q] [bTT Γ t s x V, bSt Γ s c y p pc, bCo Γ c k C, bYr Γ y Y] (fun (r : Int32) (u : Unit) => r = fitW C Y q 16) (fun (u : Unit) => [bTT Γ t s x V, bSt Γ s c y p pc, bCo Γ c k C, bYr Γ y Y]) := by
  refine Ci.of (Or.inl rfl) (by decide) (Nat.le_of_ble_eq_true rfl) ?_
  intro pp ee ss mm bb me cd AA QQ XX hnm hA hP hD fin ls hl
  obtain ⟨zx, zb, hml, hown, hts, hK⟩ := id XX
  have hS : va_S AA ss.heap ss.heap [] := va_S.rf
  have hl : lv_has ls 4 [(0, .ref (t 0)), (1, .int q)] := hl
  refine lv_iconst (v := nI 0) zx zb dX11_fittingWants_0 (by decide) ?_
  refine lv_istore_n (lv' := [(2, .int (nI 0)), (0, .ref (t 0)), (1, .int q)]) zx zb dX11_fittingWants_1 rfl hl (by decide) rfl (fun ls hl => ?_)
  refine lv_iconst (v := nI 0) zx zb dX11_fittingWants_2 (by decide) ?_
  refine lv_istore_n (lv' := [(3, .int (nI 0)), (2, .int (nI 0)), (0, .ref (t 0)), (1, .int q)]) zx zb dX11_fittingWants_3 rfl hl (by decide) rfl (fun ls hl => ?_)
  have L4 : ∀ (nn : Nat) (i : Nat) (a : Int32), (i ≤ 16) → (a = fitW C Y q i) → 16 - i < nn → ∀ (H : Heap) (locs : List Loc), bP Γ [bTT Γ t s x V, bSt Γ s c y p pc, bCo Γ c k C, bYr Γ y Y] H → bD AA [bTT Γ t s x V, bSt Γ s c y p pc, bCo Γ c k C, bYr Γ y Y] → va_S AA ss.heap H locs → ∀ (ls : Array Slot), lv_has ls 4 [(0, .ref (t 0)), (1, .int q), (2, .int a), (3, .int (nI i))] → W pp l ee { frames := 2, cells := 0, slots := 0, locals := 49 } ss mm [.ref (t 0), .int q].toArray bb me cd H locs 0 0 QQ (F0 mm 4 ls []) := by
    intro nn
    induction nn with
    | zero => intro i a hi ha hm; exact absurd hm (Nat.not_lt_zero _)
    | succ nn ih4 =>
      intro i a hi ha hm4 H locs hP hD hS ls hl
      refine lv_iload_n zx zb dX11_fittingWants_4 rfl (lv_at hl 3 rfl) ?_
      refine lv_bipush (v := nI 15) zx zb dX11_fittingWants_5 (by decide) ?_
      refine lv_icmp_gt (tgt := 41) zx zb dX11_fittingWants_7 (by decide) (fun c_7 => ?_) (fun c_7 => ?_)
      · have c_7 : 15 < i := (nI_ltI (a := 15) (b := i) (by omega) (by omega)).mp c_7
        refine lv_iload_n zx zb dX11_fittingWants_41 rfl (lv_at hl 2 rfl) ?_
        exact fin _ _ a () 42 _ dX11_fittingWants_42 (fun h => by cases h) (by have e : i = 16 := (by omega); subst e; exact ha) hP hD hS
      · have c_7 : ¬ (15 < i) := fun h => c_7 ((nI_ltI (a := 15) (b := i) (by omega) (by omega)).mpr h)
        refine lv_aload_n zx zb dX11_fittingWants_10 rfl (lv_at hl 0 rfl) ?_
        refine g_get (v := .ref (s 0)) XX hP 0 0 rfl rfl rfl iwX11 0 (by decide) fl_X11_30 rfl dX11_fittingWants_11 ?_
        refine g_get (v := .ref (c 0)) XX hP 1 0 rfl rfl rfl iwX8 0 (by decide) fl_X11_100 rfl dX11_fittingWants_14 ?_
        refine lv_iload_n zx zb dX11_fittingWants_17 rfl (lv_at hl 1 rfl) ?_
        refine lv_aload_n zx zb dX11_fittingWants_18 rfl (lv_at hl 0 rfl) ?_
        refine lv_iload_n zx zb dX11_fittingWants_19 rfl (lv_at hl 3 rfl) ?_
        refine call_Vi (As := [.int (nI i)]) (rest := [.int q, .ref (c 0)]) XX cv_X11_371 (c_X11_wetBy Γ l t s x V c k y p pc C Y (nI i) (hn)) hP hD hS hA [0, 1, 2, 3] (by decide) rfl (fun _ => rfl) 0 0 rfl rfl rfl rfl hl.1 rfl ⟨⟨by decide, by decide⟩, by decide, by decide⟩ (Nat.le_of_ble_eq_true rfl) dX11_fittingWants_20 (fun r_20 u H locs hw hP hD hS => ?_)
        have hw := hw.symm
        subst hw
        have hP : bP Γ [bTT Γ t s x V, bSt Γ s c y p pc, bCo Γ c k C, bYr Γ y Y] H := hP
        have hD : bD AA [bTT Γ t s x V, bSt Γ s c y p pc, bCo Γ c k C, bYr Γ y Y] := hD
        refine call_Vi (As := [.int q, .int (wetB C Y (nI i))]) (rest := []) XX cv_X11_374 (c_X2_tidesFit Γ l c k C q (wetB C Y (nI i)) (hdc)) hP hD hS hA [2] (by decide) rfl (fun _ => rfl) 2 0 rfl rfl rfl rfl hl.1 rfl ⟨⟨by decide, by decide⟩, by decide, by decide⟩ (Nat.le_of_ble_eq_true rfl) dX11_fittingWants_23 (fun r_23 u H locs hw hP hD hS => ?_)
        have hw := hw.symm
        subst hw
        have hP : bP Γ [bTT Γ t s x V, bSt Γ s c y p pc, bCo Γ c k C, bYr Γ y Y] H := hP
        have hD : bD AA [bTT Γ t s x V, bSt Γ s c y p pc, bCo Γ c k C, bYr Γ y Y] := hD
        refine lv_if_eq (tgt := 35) zx zb dX11_fittingWants_26 (by decide) (fun c_26 => ?_) (fun c_26 => ?_)
        · have c_26 : (allN (coFit1 C q (wetB C Y (nI i))) C.2.2.2.2.2.2.2.1) = false := bI_0.mp c_26
          refine lv_iinc (v := nI (i + 1)) (lv' := [(3, .int (nI (i + 1))), (0, .ref (t 0)), (1, .int q), (2, .int a)]) zx zb dX11_fittingWants_35 hl (k := 3) rfl (nI_inc _ 1) (by decide) rfl (fun ls hl => ?_)
          refine lv_goto (tgt := 4) zx zb dX11_fittingWants_38 (by decide) ?_
          exact ih4 (i + 1) a (by omega) (by rw [fitW, ← ha, c_26]; rfl) (by omega) _ _ hP hD hS _ (lv_sub hl [1, 2, 3, 0] rfl)
        · have c_26 : (allN (coFit1 C q (wetB C Y (nI i))) C.2.2.2.2.2.2.2.1) = true := bI_ne c_26
          refine lv_iload_n zx zb dX11_fittingWants_29 rfl (lv_at hl 2 rfl) ?_
          refine lv_iconst (v := nI 1) zx zb dX11_fittingWants_30 (by decide) ?_
          refine lv_iload_n zx zb dX11_fittingWants_31 rfl (lv_at hl 3 rfl) ?_
          refine lv_ishl zx zb dX11_fittingWants_32 ?_
          refine g_top (y := bit i) (sh31l _ (by omega)) ?_
          refine lv_ior zx zb dX11_fittingWants_33 ?_
          refine lv_istore_n (lv' := [(2, .int (a ||| (bit i))), (0, .ref (t 0)), (1, .int q), (3, .int (nI i))]) zx zb dX11_fittingWants_34 rfl hl (by decide) rfl (fun ls hl => ?_)
          refine lv_iinc (v := nI (i + 1)) (lv' := [(3, .int (nI (i + 1))), (2, .int (a ||| (bit i))), (0, .ref (t 0)), (1, .int q)]) zx zb dX11_fittingWants_35 hl (k := 3) rfl (nI_inc _ 1) (by decide) rfl (fun ls hl => ?_)
          refine lv_goto (tgt := 4) zx zb dX11_fittingWants_38 (by decide) ?_
          exact ih4 (i + 1) (a ||| (bit i)) (by omega) (by rw [fitW, ← ha, c_26]; rfl) (by omega) _ _ hP hD hS _ (lv_sub hl [2, 3, 1, 0] rfl)
  exact L4 _ 0 0 (by omega) (rfl) (Nat.lt_succ_self _) _ _ hP hD hS _ (lv_sub hl [2, 3, 1, 0] rfl)

set_option maxHeartbeats 4000000 in
set_option maxRecDepth 100000 in
theorem c_X11_countWetting (Γ : GG) (l : Launch) (t : Nat → Nat) (s : Nat → Nat) (x : Nat → Nat) (V : V3) (c : Nat → Nat) (k : Nat → Nat) (y : Nat → Nat) (p : Nat → Nat → Nat) (pc : Nat) (C : CoV) (Y : YrV) (j : Nat) (q : Int32) (hn : C.1 ≤ 8) (hj : j < 8) : Ci Γ l yX11_countWetting cX11_countWetting 5 (some (.int)) 2 49 0 0 [.ref (t 0), .int (nI j), .int q] [bTT Γ t s x V, bSt Γ s c y p pc, bCo Γ c k C, bYr Γ y Y] (fun (r : Int32) (u : Unit) => r = cntW C Y j q 16) (fun (u : Unit) => [bTT Γ t s x V, bSt Γ s c y p pc, bCo Γ c k C, bYr Γ y Y]) := by
  refine Ci.of (Or.inl rfl) (by decide) (Nat.le_of_ble_eq_true rfl) ?_
  intro pp ee ss mm bb me cd AA QQ XX hnm hA hP hD fin ls hl
  obtain ⟨zx, zb, hml, hown, hts, hK⟩ := id XX
  have hS : va_S AA ss.heap ss.heap [] := va_S.rf
  have hl : lv_has ls 5 [(0, .ref (t 0)), (1, .int (nI j)), (2, .int q)] := hl
  refine lv_iconst (v := nI 0) zx zb dX11_countWetting_0 (by decide) ?_
  refine lv_istore_n (lv' := [(3, .int (nI 0)), (0, .ref (t 0)), (1, .int (nI j)), (2, .int q)]) zx zb dX11_countWetting_1 rfl hl (by decide) rfl (fun ls hl => ?_)
  refine lv_iconst (v := nI 0) zx zb dX11_countWetting_2 (by decide) ?_
  refine lv_istore (lv' := [(4, .int (nI 0)), (3, .int (nI 0)), (0, .ref (t 0)), (1, .int (nI j)), (2, .int q)]) zx zb dX11_countWetting_3 hl (by decide) rfl (fun ls hl => ?_)
  have L5 : ∀ (nn : Nat) (i : Nat) (a : Int32), (i ≤ 16) → (a = cntW C Y j q i) → 16 - i < nn → ∀ (H : Heap) (locs : List Loc), bP Γ [bTT Γ t s x V, bSt Γ s c y p pc, bCo Γ c k C, bYr Γ y Y] H → bD AA [bTT Γ t s x V, bSt Γ s c y p pc, bCo Γ c k C, bYr Γ y Y] → va_S AA ss.heap H locs → ∀ (ls : Array Slot), lv_has ls 5 [(0, .ref (t 0)), (1, .int (nI j)), (2, .int q), (3, .int a), (4, .int (nI i))] → W pp l ee { frames := 2, cells := 0, slots := 0, locals := 49 } ss mm [.ref (t 0), .int (nI j), .int q].toArray bb me cd H locs 0 0 QQ (F0 mm 5 ls []) := by
    intro nn
    induction nn with
    | zero => intro i a hi ha hm; exact absurd hm (Nat.not_lt_zero _)
    | succ nn ih5 =>
      intro i a hi ha hm5 H locs hP hD hS ls hl
      refine lv_iload zx zb dX11_countWetting_5 (lv_at hl 4 rfl) ?_
      refine lv_bipush (v := nI 15) zx zb dX11_countWetting_7 (by decide) ?_
      refine lv_icmp_gt (tgt := 43) zx zb dX11_countWetting_9 (by decide) (fun c_9 => ?_) (fun c_9 => ?_)
      · have c_9 : 15 < i := (nI_ltI (a := 15) (b := i) (by omega) (by omega)).mp c_9
        refine lv_iload_n zx zb dX11_countWetting_43 rfl (lv_at hl 3 rfl) ?_
        exact fin _ _ a () 44 _ dX11_countWetting_44 (fun h => by cases h) (by have e : i = 16 := (by omega); subst e; exact ha) hP hD hS
      · have c_9 : ¬ (15 < i) := fun h => c_9 ((nI_ltI (a := 15) (b := i) (by omega) (by omega)).mpr h)
        refine lv_iload_n zx zb dX11_countWetting_12 rfl (lv_at hl 2 rfl) ?_
        refine lv_iconst (v := nI 1) zx zb dX11_countWetting_13 (by decide) ?_
        refine lv_iload zx zb dX11_countWetting_14 (lv_at hl 4 rfl) ?_
        refine lv_ishl zx zb dX11_countWetting_16 ?_
        refine g_top (y := bit i) (sh31l _ (by omega)) ?_
        refine lv_iand zx zb dX11_countWetting_17 ?_
        refine lv_if_eq (tgt := 37) zx zb dX11_countWetting_18 (by decide) (fun c_18 => ?_) (fun c_18 => ?_)
        · have c_18 : hasB q i = false := hasB_f.mp c_18
          refine lv_iinc (v := nI (i + 1)) (lv' := [(4, .int (nI (i + 1))), (0, .ref (t 0)), (1, .int (nI j)), (2, .int q), (3, .int a)]) zx zb dX11_countWetting_37 hl (k := 4) rfl (nI_inc _ 1) (by decide) rfl (fun ls hl => ?_)
          refine lv_goto (tgt := 5) zx zb dX11_countWetting_40 (by decide) ?_
          exact ih5 (i + 1) a (by omega) (by first | (rw [cntW, ← ha, c_18, if_neg (fun h => Bool.false_ne_true h.1)]; done) | (rw [cntW, ← ha, c_31, if_neg (fun h => Bool.false_ne_true h.2)]; done) | (rw [cntW, ← ha, c_18, c_31, if_pos ⟨rfl, rfl⟩]; done)) (by omega) _ _ hP hD hS _ (lv_sub hl [1, 2, 3, 4, 0] rfl)
        · have c_18 : hasB q i = true := hasB_t.mp c_18
          refine lv_aload_n zx zb dX11_countWetting_21 rfl (lv_at hl 0 rfl) ?_
          refine lv_iload zx zb dX11_countWetting_22 (lv_at hl 4 rfl) ?_
          refine call_Vi (As := [.int (nI i)]) (rest := []) XX cv_X11_371 (c_X11_wetBy Γ l t s x V c k y p pc C Y (nI i) (hn)) hP hD hS hA [0, 1, 2, 3] (by decide) rfl (fun _ => rfl) 0 0 rfl rfl rfl rfl hl.1 rfl ⟨⟨by decide, by decide⟩, by decide, by decide⟩ (Nat.le_of_ble_eq_true rfl) dX11_countWetting_24 (fun r_24 u H locs hw hP hD hS => ?_)
          have hw := hw.symm
          subst hw
          have hP : bP Γ [bTT Γ t s x V, bSt Γ s c y p pc, bCo Γ c k C, bYr Γ y Y] H := hP
          have hD : bD AA [bTT Γ t s x V, bSt Γ s c y p pc, bCo Γ c k C, bYr Γ y Y] := hD
          refine lv_iconst (v := nI 1) zx zb dX11_countWetting_27 (by decide) ?_
          refine lv_iload_n zx zb dX11_countWetting_28 rfl (lv_at hl 1 rfl) ?_
          refine lv_ishl zx zb dX11_countWetting_29 ?_
          refine g_top (y := bit j) (sh31l _ (by omega)) ?_
          refine lv_iand zx zb dX11_countWetting_30 ?_
          refine lv_if_eq (tgt := 37) zx zb dX11_countWetting_31 (by decide) (fun c_31 => ?_) (fun c_31 => ?_)
          · have c_31 : hasB (wetB C Y (nI i)) j = false := hasB_f.mp c_31
            refine lv_iinc (v := nI (i + 1)) (lv' := [(4, .int (nI (i + 1))), (0, .ref (t 0)), (1, .int (nI j)), (2, .int q), (3, .int a)]) zx zb dX11_countWetting_37 hl (k := 4) rfl (nI_inc _ 1) (by decide) rfl (fun ls hl => ?_)
            refine lv_goto (tgt := 5) zx zb dX11_countWetting_40 (by decide) ?_
            exact ih5 (i + 1) a (by omega) (by first | (rw [cntW, ← ha, c_18, if_neg (fun h => Bool.false_ne_true h.1)]; done) | (rw [cntW, ← ha, c_31, if_neg (fun h => Bool.false_ne_true h.2)]; done) | (rw [cntW, ← ha, c_18, c_31, if_pos ⟨rfl, rfl⟩]; done)) (by omega) _ _ hP hD hS _ (lv_sub hl [1, 2, 3, 4, 0] rfl)
          · have c_31 : hasB (wetB C Y (nI i)) j = true := hasB_t.mp c_31
            refine lv_iinc (v := a + 1) (lv' := [(3, .int (a + 1)), (0, .ref (t 0)), (1, .int (nI j)), (2, .int q), (4, .int (nI i))]) zx zb dX11_countWetting_34 hl (k := 3) rfl (rfl) (by decide) rfl (fun ls hl => ?_)
            refine lv_iinc (v := nI (i + 1)) (lv' := [(4, .int (nI (i + 1))), (3, .int (a + 1)), (0, .ref (t 0)), (1, .int (nI j)), (2, .int q)]) zx zb dX11_countWetting_37 hl (k := 4) rfl (nI_inc _ 1) (by decide) rfl (fun ls hl => ?_)
            refine lv_goto (tgt := 5) zx zb dX11_countWetting_40 (by decide) ?_
            exact ih5 (i + 1) (a + 1) (by omega) (by first | (rw [cntW, ← ha, c_18, if_neg (fun h => Bool.false_ne_true h.1)]; done) | (rw [cntW, ← ha, c_31, if_neg (fun h => Bool.false_ne_true h.2)]; done) | (rw [cntW, ← ha, c_18, c_31, if_pos ⟨rfl, rfl⟩]; done)) (by omega) _ _ hP hD hS _ (lv_sub hl [2, 3, 4, 1, 0] rfl)
  exact L5 _ 0 0 (by omega) (rfl) (Nat.lt_succ_self _) _ _ hP hD hS _ (lv_sub hl [2, 3, 4, 1, 0] rfl)

set_option maxHeartbeats 4000000 in
set_option maxRecDepth 100000 in
theorem c_X11_nextToTell (Γ : GG) (l : Launch) (t : Nat → Nat) (s : Nat → Nat) (x : Nat → Nat) (V : V3) (c : Nat → Nat) (k : Nat → Nat) (y : Nat → Nat) (p : Nat → Nat → Nat) (pc : Nat) (C : CoV) (Y : YrV) (q : Int32) (hn : C.1 ≤ 8) : Ci Γ l yX11_nextToTell cX11_nextToTell 8 (some (.int)) 3 73 0 0 [.ref (t 0), .int q] [bTT Γ t s x V, bSt Γ s c y p pc, bCo Γ c k C, bYr Γ y Y] (fun (r : Int32) (u : Unit) => r = neR C Y q) (fun (u : Unit) => [bTT Γ t s x V, bSt Γ s c y p pc, bCo Γ c k C, bYr Γ y Y]) := by
  refine Ci.of (Or.inl rfl) (by decide) (Nat.le_of_ble_eq_true rfl) ?_
  intro pp ee ss mm bb me cd AA QQ XX hnm hA hP hD fin ls hl
  obtain ⟨zx, zb, hml, hown, hts, hK⟩ := id XX
  have hS : va_S AA ss.heap ss.heap [] := va_S.rf
  have hl : lv_has ls 8 [(0, .ref (t 0)), (1, .int q)] := hl
  refine lv_iload_n zx zb dX11_nextToTell_0 rfl (lv_at hl 1 rfl) ?_
  refine lv_if_ne (tgt := 6) zx zb dX11_nextToTell_1 (by decide) (fun c_1 => ?_) (fun c_1 => ?_)
  · have c_1 : ¬ (q = (0 : Int32)) := c_1
    refine lv_iload_n zx zb dX11_nextToTell_6 rfl (lv_at hl 1 rfl) ?_
    refine callR_Si (As := [.int q]) (rest := []) XX cs_X11_262 (c_J6_bitCount_0f7a4 Γ l q ) hP hD hS hA nil_mem nil_D rfl hl.1 rfl ⟨⟨by decide, by decide⟩, by decide, by decide⟩ (Nat.le_of_ble_eq_true rfl) dX11_nextToTell_7 (fun r_7 H locs hw hP hS => ?_)
    have hw := hw.symm
    subst hw
    refine lv_istore_n (lv' := [(2, .int (popc q)), (0, .ref (t 0)), (1, .int q)]) zx zb dX11_nextToTell_10 rfl hl (by decide) rfl (fun ls hl => ?_)
    refine lv_iconst (v := (-1)) zx zb dX11_nextToTell_11 (by decide) ?_
    refine lv_istore_n (lv' := [(3, .int (-1)), (2, .int (popc q)), (0, .ref (t 0)), (1, .int q)]) zx zb dX11_nextToTell_12 rfl hl (by decide) rfl (fun ls hl => ?_)
    refine lv_iload_n zx zb dX11_nextToTell_13 rfl (lv_at hl 1 rfl) ?_
    refine lv_iconst (v := nI 1) zx zb dX11_nextToTell_14 (by decide) ?_
    refine lv_iadd zx zb dX11_nextToTell_15 ?_
    refine g_top (y := (popc q) + 1) rfl ?_
    refine lv_istore (lv' := [(4, .int ((popc q) + 1)), (3, .int (-1)), (2, .int (popc q)), (0, .ref (t 0)), (1, .int q)]) zx zb dX11_nextToTell_16 hl (by decide) rfl (fun ls hl => ?_)
    refine lv_iconst (v := nI 0) zx zb dX11_nextToTell_18 (by decide) ?_
    refine lv_istore (lv' := [(5, .int (nI 0)), (4, .int ((popc q) + 1)), (3, .int (-1)), (2, .int (popc q)), (0, .ref (t 0)), (1, .int q)]) zx zb dX11_nextToTell_19 hl (by decide) rfl (fun ls hl => ?_)
    have L21 : ∀ (nn : Nat) (i : Nat) (b : Int32) (a : Int32), (i ≤ C.1) → ((b, a) = neS C Y q i) → C.1 - i < nn → ∀ (H : Heap) (locs : List Loc), bP Γ [bTT Γ t s x V, bSt Γ s c y p pc, bCo Γ c k C, bYr Γ y Y] H → bD AA [bTT Γ t s x V, bSt Γ s c y p pc, bCo Γ c k C, bYr Γ y Y] → va_S AA ss.heap H locs → ∀ (ls : Array Slot), lv_has ls 8 [(0, .ref (t 0)), (1, .int q), (2, .int (popc q)), (3, .int b), (4, .int a), (5, .int (nI i))] → W pp l ee { frames := 3, cells := 0, slots := 0, locals := 73 } ss mm [.ref (t 0), .int q].toArray bb me cd H locs 0 0 QQ (F0 mm 21 ls []) := by
      intro nn
      induction nn with
      | zero => intro i b a hi ha hm; exact absurd hm (Nat.not_lt_zero _)
      | succ nn ih21 =>
        intro i b a hi ha hm21 H locs hP hD hS ls hl
        refine lv_iload zx zb dX11_nextToTell_21 (lv_at hl 5 rfl) ?_
        refine lv_aload_n zx zb dX11_nextToTell_23 rfl (lv_at hl 0 rfl) ?_
        refine g_get (v := .ref (s 0)) XX hP 0 0 rfl rfl rfl iwX11 0 (by decide) fl_X11_30 rfl dX11_nextToTell_24 ?_
        refine g_get (v := .ref (c 0)) XX hP 1 0 rfl rfl rfl iwX8 0 (by decide) fl_X11_100 rfl dX11_nextToTell_27 ?_
        refine g_get (v := .int (nI (C.1))) XX hP 2 0 rfl rfl rfl iwX2 1 (by decide) fl_X11_230 rfl dX11_nextToTell_30 ?_
        refine lv_icmp_ge (tgt := 76) zx zb dX11_nextToTell_33 (by decide) (fun c_33 => ?_) (fun c_33 => ?_)
        · have c_33 : C.1 ≤ i := (nI_leI (a := C.1) (b := i) (by omega) (by omega)).mp c_33
          refine lv_iload_n zx zb dX11_nextToTell_76 rfl (lv_at hl 3 rfl) ?_
          exact fin _ _ b () 77 _ dX11_nextToTell_77 (fun h => by cases h) (by have e : i = C.1 := (by omega); subst e; unfold neR; rw [if_neg c_1, ← ha]) hP hD hS
        · have c_33 : ¬ (C.1 ≤ i) := fun h => c_33 ((nI_leI (a := C.1) (b := i) (by omega) (by omega)).mpr h)
          refine lv_aload_n zx zb dX11_nextToTell_36 rfl (lv_at hl 0 rfl) ?_
          refine lv_iload zx zb dX11_nextToTell_37 (lv_at hl 5 rfl) ?_
          refine lv_iload_n zx zb dX11_nextToTell_39 rfl (lv_at hl 1 rfl) ?_
          refine call_Vi (As := [.int (nI i), .int q]) (rest := []) XX cv_X11_377 (c_X11_countWetting Γ l t s x V c k y p pc C Y i q (hn) (by omega)) hP hD hS hA [0, 1, 2, 3] (by decide) rfl (fun _ => rfl) 0 0 rfl rfl rfl rfl hl.1 rfl ⟨⟨by decide, by decide⟩, by decide, by decide⟩ (Nat.le_of_ble_eq_true rfl) dX11_nextToTell_40 (fun r_40 u H locs hw hP hD hS => ?_)
          have hw := hw.symm
          subst hw
          have hP : bP Γ [bTT Γ t s x V, bSt Γ s c y p pc, bCo Γ c k C, bYr Γ y Y] H := hP
          have hD : bD AA [bTT Γ t s x V, bSt Γ s c y p pc, bCo Γ c k C, bYr Γ y Y] := hD
          refine lv_istore (lv' := [(6, .int (cntW C Y i q 16)), (0, .ref (t 0)), (1, .int q), (2, .int (popc q)), (3, .int b), (4, .int a), (5, .int (nI i))]) zx zb dX11_nextToTell_43 hl (by decide) rfl (fun ls hl => ?_)
          refine lv_iload zx zb dX11_nextToTell_45 (lv_at hl 0 rfl) ?_
          refine lv_iload_n zx zb dX11_nextToTell_47 rfl (lv_at hl 3 rfl) ?_
          refine lv_iload zx zb dX11_nextToTell_48 (lv_at hl 0 rfl) ?_
          refine lv_isub zx zb dX11_nextToTell_50 ?_
          refine va_mmax (rest := []) zx zb (hml.trans hl.1.symm) hown (hts _ ml_X11_357) (hts _ st_J9_max_7cf53) (hts _ in_J9) (hts _ cd_J9_max_7cf53) (Nat.le_of_ble_eq_true rfl) (Nat.le_of_ble_eq_true rfl) (Nat.le_of_ble_eq_true rfl) (Nat.le_of_ble_eq_true rfl) dX11_nextToTell_51 ?_
          refine g_top (y := imax (cntW C Y i q 16) ((popc q) - (cntW C Y i q 16))) rfl ?_
          refine lv_istore (lv' := [(7, .int (imax (cntW C Y i q 16) ((popc q) - (cntW C Y i q 16)))), (6, .int (cntW C Y i q 16)), (0, .ref (t 0)), (1, .int q), (2, .int (popc q)), (3, .int b), (4, .int a), (5, .int (nI i))]) zx zb dX11_nextToTell_54 hl (by decide) rfl (fun ls hl => ?_)
          refine lv_iload zx zb dX11_nextToTell_56 (lv_at hl 0 rfl) ?_
          refine lv_iload zx zb dX11_nextToTell_58 (lv_at hl 6 rfl) ?_
          refine lv_icmp_ge (tgt := 70) zx zb dX11_nextToTell_60 (by decide) (fun c_60 => ?_) (fun c_60 => ?_)
          · have c_60 : a ≤ (imax (cntW C Y i q 16) ((popc q) - (cntW C Y i q 16))) := c_60
            refine lv_iinc (v := nI (i + 1)) (lv' := [(5, .int (nI (i + 1))), (7, .int (imax (cntW C Y i q 16) ((popc q) - (cntW C Y i q 16)))), (6, .int (cntW C Y i q 16)), (0, .ref (t 0)), (1, .int q), (2, .int (popc q)), (3, .int b), (4, .int a)]) zx zb dX11_nextToTell_70 hl (k := 7) rfl (nI_inc _ 1) (by decide) rfl (fun ls hl => ?_)
            refine lv_goto (tgt := 21) zx zb dX11_nextToTell_73 (by decide) ?_
            exact ih21 (i + 1) b a (by omega) (by first | exact neS_no ha c_60 | exact neS_ys ha c_60) (by omega) _ _ hP hD hS _ (lv_sub hl [3, 4, 5, 6, 7, 0] rfl)
          · have c_60 : ¬ (a ≤ (imax (cntW C Y i q 16) ((popc q) - (cntW C Y i q 16)))) := c_60
            refine lv_iload zx zb dX11_nextToTell_63 (lv_at hl 0 rfl) ?_
            refine lv_istore (lv' := [(4, .int (imax (cntW C Y i q 16) ((popc q) - (cntW C Y i q 16)))), (7, .int (imax (cntW C Y i q 16) ((popc q) - (cntW C Y i q 16)))), (6, .int (cntW C Y i q 16)), (0, .ref (t 0)), (1, .int q), (2, .int (popc q)), (3, .int b), (5, .int (nI i))]) zx zb dX11_nextToTell_65 hl (by decide) rfl (fun ls hl => ?_)
            refine lv_iload zx zb dX11_nextToTell_67 (lv_at hl 7 rfl) ?_
            refine lv_istore_n (lv' := [(3, .int (nI i)), (4, .int (imax (cntW C Y i q 16) ((popc q) - (cntW C Y i q 16)))), (7, .int (imax (cntW C Y i q 16) ((popc q) - (cntW C Y i q 16)))), (6, .int (cntW C Y i q 16)), (0, .ref (t 0)), (1, .int q), (2, .int (popc q)), (5, .int (nI i))]) zx zb dX11_nextToTell_69 rfl hl (by decide) rfl (fun ls hl => ?_)
            refine lv_iinc (v := nI (i + 1)) (lv' := [(5, .int (nI (i + 1))), (3, .int (nI i)), (4, .int (imax (cntW C Y i q 16) ((popc q) - (cntW C Y i q 16)))), (7, .int (imax (cntW C Y i q 16) ((popc q) - (cntW C Y i q 16)))), (6, .int (cntW C Y i q 16)), (0, .ref (t 0)), (1, .int q), (2, .int (popc q))]) zx zb dX11_nextToTell_70 hl (k := 7) rfl (nI_inc _ 1) (by decide) rfl (fun ls hl => ?_)
            refine lv_goto (tgt := 21) zx zb dX11_nextToTell_73 (by decide) ?_
            exact ih21 (i + 1) (nI i) (imax (cntW C Y i q 16) ((popc q) - (cntW C Y i q 16))) (by omega) (by first | exact neS_no ha c_60 | exact neS_ys ha c_60) (by omega) _ _ hP hD hS _ (lv_sub hl [5, 6, 7, 1, 2, 0] rfl)
    exact L21 _ 0 (-1) ((popc q) + 1) (by omega) (rfl) (Nat.lt_succ_self _) _ _ hP hD hS _ (lv_sub hl [4, 5, 3, 2, 1, 0] rfl)
  · have c_1 : q = (0 : Int32) := c_1
    refine lv_iconst (v := (-1)) zx zb dX11_nextToTell_4 (by decide) ?_
    exact fin _ _ (-1) () 5 _ dX11_nextToTell_5 (fun h => by cases h) (by unfold neR; rw [if_pos c_1]) hP hD hS

set_option maxHeartbeats 4000000 in
set_option maxRecDepth 100000 in
theorem c_X11_learnt (Γ : GG) (l : Launch) (t : Nat → Nat) (s : Nat → Nat) (x : Nat → Nat) (V : V3) (c : Nat → Nat) (k : Nat → Nat) (y : Nat → Nat) (p : Nat → Nat → Nat) (pc : Nat) (C : CoV) (Y : YrV) (a : Int32) (w : Int32) (hn : C.1 ≤ 8) (hdc : C.2.2.2.2.2.2.2.1 ≤ 6) : Ci Γ l yX11_learnt cX11_learnt 4 (some (.int)) 4 100 0 0 [.ref (t 0), .int a, .int w] [bTT Γ t s x V, bSt Γ s c y p pc, bCo Γ c k C, bYr Γ y Y] (fun (r : Int32) (u : V3) => r = lnR C Y a w ∧ u = stV V (lnOk a w)) (fun (u : V3) => [bTT Γ t s x u, bSt Γ s c y p pc, bCo Γ c k C, bYr Γ y Y]) := by
  refine Ci.of (Or.inl rfl) (by decide) (Nat.le_of_ble_eq_true rfl) ?_
  intro pp ee ss mm bb me cd AA QQ XX hnm hA hP hD fin ls hl
  obtain ⟨zx, zb, hml, hown, hts, hK⟩ := id XX
  have hS : va_S AA ss.heap ss.heap [] := va_S.rf
  have hl : lv_has ls 4 [(0, .ref (t 0)), (1, .int a), (2, .int w)] := hl
  refine lv_iload_n zx zb dX11_learnt_0 rfl (lv_at hl 1 rfl) ?_
  refine lv_iconst (v := nI 0) zx zb dX11_learnt_1 (by decide) ?_
  refine lv_bipush (v := nI 7) zx zb dX11_learnt_2 (by decide) ?_
  refine callR_Si (As := [.int a, .int (nI 0), .int (nI 7)]) (rest := []) XX cs_X11_75 (c_X11_within Γ l a 0 7 ) hP hD hS hA nil_mem nil_D rfl hl.1 rfl ⟨⟨by decide, by decide⟩, by decide, by decide⟩ (Nat.le_of_ble_eq_true rfl) dX11_learnt_4 (fun r_4 H locs hw hP hS => ?_)
  have hw := hw.symm
  subst hw
  refine lv_if_eq (tgt := 19) zx zb dX11_learnt_7 (by decide) (fun c_7 => ?_) (fun c_7 => ?_)
  · have c_7 : (wi a 0 7) = false := bI_0.mp c_7
    refine lv_aload_n zx zb dX11_learnt_19 rfl (lv_at hl 0 rfl) ?_
    refine lv_bipush (v := (-2)) zx zb dX11_learnt_20 (by decide) ?_
    refine lv_bipush (v := (-10)) zx zb dX11_learnt_22 (by decide) ?_
    refine call_Vi (As := [.int (-2), .int (-10)]) (rest := []) XX cv_X11_79 (c_X11_refused Γ l t s x V (-2) (-10) ) hP hD hS hA [0] (by decide) rfl (fun _ => rfl) 0 0 rfl rfl rfl rfl hl.1 rfl ⟨⟨by decide, by decide⟩, by decide, by decide⟩ (Nat.le_of_ble_eq_true rfl) dX11_learnt_24 (fun r_24 u H locs hw hP hD hS => ?_)
    obtain ⟨hw1, hw2⟩ := hw
    have hw1 := hw1.symm
    have hw2 := hw2.symm
    subst hw1
    subst hw2
    have hP : bP Γ [bTT Γ t s x (ttRef V (-2)), bSt Γ s c y p pc, bCo Γ c k C, bYr Γ y Y] H := hP
    have hD : bD AA [bTT Γ t s x (ttRef V (-2)), bSt Γ s c y p pc, bCo Γ c k C, bYr Γ y Y] := hD
    exact fin _ _ (-10) (ttRef V (-2)) 27 _ dX11_learnt_27 (fun h => by cases h) ⟨(by simp [lnR, lnOk, c_7]), (by simp only [stV, lnOk, c_7, ttRef_b, Bool.false_and, Bool.and_false]; rfl)⟩ hP hD hS
  · have c_7 : (wi a 0 7) = true := bI_ne c_7
    refine lv_iload_n zx zb dX11_learnt_10 rfl (lv_at hl 2 rfl) ?_
    refine lv_iconst (v := nI 0) zx zb dX11_learnt_11 (by decide) ?_
    refine lv_iconst (v := nI 1) zx zb dX11_learnt_12 (by decide) ?_
    refine callR_Si (As := [.int w, .int (nI 0), .int (nI 1)]) (rest := []) XX cs_X11_75 (c_X11_within Γ l w 0 1 ) hP hD hS hA nil_mem nil_D rfl hl.1 rfl ⟨⟨by decide, by decide⟩, by decide, by decide⟩ (Nat.le_of_ble_eq_true rfl) dX11_learnt_13 (fun r_13 H locs hw hP hS => ?_)
    have hw := hw.symm
    subst hw
    refine lv_if_ne (tgt := 28) zx zb dX11_learnt_16 (by decide) (fun c_16 => ?_) (fun c_16 => ?_)
    · have c_16 : (wi w 0 1) = true := bI_ne c_16
      refine lv_aload_n zx zb dX11_learnt_28 rfl (lv_at hl 0 rfl) ?_
      refine lv_iload_n zx zb dX11_learnt_29 rfl (lv_at hl 1 rfl) ?_
      refine call_Vi (As := [.int a]) (rest := []) XX cv_X11_259 (c_X11_fittingWants Γ l t s x V c k y p pc C Y a (hn) (hdc)) hP hD hS hA [0, 1, 2, 3] (by decide) rfl (fun _ => rfl) 0 0 rfl rfl rfl rfl hl.1 rfl ⟨⟨by decide, by decide⟩, by decide, by decide⟩ (Nat.le_of_ble_eq_true rfl) dX11_learnt_30 (fun r_30 u H locs hw hP hD hS => ?_)
      have hw := hw.symm
      subst hw
      have hP : bP Γ [bTT Γ t s x V, bSt Γ s c y p pc, bCo Γ c k C, bYr Γ y Y] H := hP
      have hD : bD AA [bTT Γ t s x V, bSt Γ s c y p pc, bCo Γ c k C, bYr Γ y Y] := hD
      refine lv_istore_n (lv' := [(3, .int (fitW C Y a 16)), (0, .ref (t 0)), (1, .int a), (2, .int w)]) zx zb dX11_learnt_33 rfl hl (by decide) rfl (fun ls hl => ?_)
      refine lv_iload_n zx zb dX11_learnt_34 rfl (lv_at hl 3 rfl) ?_
      refine lv_if_ne (tgt := 45) zx zb dX11_learnt_35 (by decide) (fun c_35 => ?_) (fun c_35 => ?_)
      · have c_35 : ¬ (w = (0 : Int32)) := c_35
        refine lv_aload_n zx zb dX11_learnt_45 rfl (lv_at hl 1 rfl) ?_
        refine lv_iload_n zx zb dX11_learnt_46 rfl (lv_at hl 0 rfl) ?_
        refine call_Vi (As := [.int (fitW C Y a 16)]) (rest := []) XX cv_X11_267 (c_X11_nextToTell Γ l t s x V c k y p pc C Y (fitW C Y a 16) (hn)) hP hD hS hA [0, 1, 2, 3] (by decide) rfl (fun _ => rfl) 0 0 rfl rfl rfl rfl hl.1 rfl ⟨⟨by decide, by decide⟩, by decide, by decide⟩ (Nat.le_of_ble_eq_true rfl) dX11_learnt_47 (fun r_47 u H locs hw hP hD hS => ?_)
        have hw := hw.symm
        subst hw
        have hP : bP Γ [bTT Γ t s x V, bSt Γ s c y p pc, bCo Γ c k C, bYr Γ y Y] H := hP
        have hD : bD AA [bTT Γ t s x V, bSt Γ s c y p pc, bCo Γ c k C, bYr Γ y Y] := hD
        exact fin _ _ (neR C Y (fitW C Y a 16)) V 50 _ dX11_learnt_50 (fun h => by cases h) ⟨(by unfold lnR lnOk; rw [c_7, c_16]; first | (simp only [Bool.and_self, if_true, if_pos c_35]; done) | (simp only [Bool.and_self, if_true, if_neg c_35]; done)), (by unfold lnOk; rw [c_7, c_16]; rfl)⟩ hP hD hS
      · have c_35 : w = (0 : Int32) := c_35
        refine lv_iload_n zx zb dX11_learnt_38 rfl (lv_at hl 0 rfl) ?_
        refine callR_Si (As := [.int (fitW C Y a 16)]) (rest := []) XX cs_X11_262 (c_J6_bitCount_0f7a4 Γ l (fitW C Y a 16) ) hP hD hS hA nil_mem nil_D rfl hl.1 rfl ⟨⟨by decide, by decide⟩, by decide, by decide⟩ (Nat.le_of_ble_eq_true rfl) dX11_learnt_39 (fun r_39 H locs hw hP hS => ?_)
        have hw := hw.symm
        subst hw
        refine lv_goto (tgt := 50) zx zb dX11_learnt_42 (by decide) ?_
        exact fin _ _ (popc (fitW C Y a 16)) V 50 _ dX11_learnt_50 (fun h => by cases h) ⟨(by unfold lnR lnOk; rw [c_7, c_16]; first | (simp only [Bool.and_self, if_true, if_pos c_35]; done) | (simp only [Bool.and_self, if_true, if_neg c_35]; done)), (by unfold lnOk; rw [c_7, c_16]; rfl)⟩ hP hD hS
    · have c_16 : (wi w 0 1) = false := bI_0.mp c_16
      refine lv_aload_n zx zb dX11_learnt_19 rfl (lv_at hl 0 rfl) ?_
      refine lv_bipush (v := (-2)) zx zb dX11_learnt_20 (by decide) ?_
      refine lv_bipush (v := (-10)) zx zb dX11_learnt_22 (by decide) ?_
      refine call_Vi (As := [.int (-2), .int (-10)]) (rest := []) XX cv_X11_79 (c_X11_refused Γ l t s x V (-2) (-10) ) hP hD hS hA [0] (by decide) rfl (fun _ => rfl) 0 0 rfl rfl rfl rfl hl.1 rfl ⟨⟨by decide, by decide⟩, by decide, by decide⟩ (Nat.le_of_ble_eq_true rfl) dX11_learnt_24 (fun r_24 u H locs hw hP hD hS => ?_)
      obtain ⟨hw1, hw2⟩ := hw
      have hw1 := hw1.symm
      have hw2 := hw2.symm
      subst hw1
      subst hw2
      have hP : bP Γ [bTT Γ t s x (ttRef V (-2)), bSt Γ s c y p pc, bCo Γ c k C, bYr Γ y Y] H := hP
      have hD : bD AA [bTT Γ t s x (ttRef V (-2)), bSt Γ s c y p pc, bCo Γ c k C, bYr Γ y Y] := hD
      exact fin _ _ (-10) (ttRef V (-2)) 27 _ dX11_learnt_27 (fun h => by cases h) ⟨(by simp [lnR, lnOk, c_7, c_16]), (by simp only [stV, lnOk, c_7, c_16, ttRef_b, Bool.false_and, Bool.and_false]; rfl)⟩ hP hD hS

set_option maxHeartbeats 4000000 in
set_option maxRecDepth 100000 in
theorem c_X11_lineFits (Γ : GG) (l : Launch) (j : Nat) (q : Int32) (hj : j ≤ 8) : Ci Γ l yX11_lineFits cX11_lineFits 2 (some (.boolean)) 0 0 0 0 [.int (nI j), .int q] [] (fun (r : Int32) (u : Unit) => r = bI (liF q j)) (fun (u : Unit) => []) := by
  refine Ci.of (Or.inr rfl) (by decide) (Nat.le_of_ble_eq_true rfl) ?_
  intro pp ee ss mm bb me cd AA QQ XX hnm hA hP hD fin ls hl
  obtain ⟨zx, zb, hml, hown, hts, hK⟩ := id XX
  have hS : va_S AA ss.heap ss.heap [] := va_S.rf
  have hl : lv_has ls 2 [(0, .int (nI j)), (1, .int q)] := hl
  refine lv_iload_n zx zb dX11_lineFits_0 rfl (lv_at hl 1 rfl) ?_
  refine lv_iload_n zx zb dX11_lineFits_1 rfl (lv_at hl 0 rfl) ?_
  refine lv_ishr zx zb dX11_lineFits_2 ?_
  refine g_top (y := q >>> (nI j)) (sh31r _ (by omega)) ?_
  refine lv_if_eq (tgt := 8) zx zb dX11_lineFits_3 (by decide) (fun c_3 => ?_) (fun c_3 => ?_)
  · have c_3 : (q >>> (nI j)) = (0 : Int32) := c_3
    refine lv_iload_n zx zb dX11_lineFits_8 rfl (lv_at hl 0 rfl) ?_
    refine lv_iconst (v := nI 2) zx zb dX11_lineFits_9 (by decide) ?_
    refine lv_icmp_lt (tgt := 21) zx zb dX11_lineFits_10 (by decide) (fun c_10 => ?_) (fun c_10 => ?_)
    · have c_10 : j < 2 := (nI_ltI (a := j) (b := 2) (by omega) (by omega)).mp c_10
      refine lv_iconst (v := nI 1) zx zb dX11_lineFits_21 (by decide) ?_
      refine lv_goto (tgt := 26) zx zb dX11_lineFits_22 (by decide) ?_
      exact fin _ _ (nI 1) () 26 _ dX11_lineFits_26 (fun _ => nar1) (by first | exact retT (by unfold liF; first | (simp only [decide_eq_false c_3, Bool.false_and]; done) | (simp only [decide_eq_true c_3, decide_eq_true c_10, Bool.true_and, Bool.true_or]; done) | (simp only [decide_eq_true c_3, decide_eq_false c_10, decide_eq_true c_18, Bool.true_and, Bool.false_or, Bool.not_true]; done) | (simp only [decide_eq_true c_3, decide_eq_false c_10, decide_eq_false c_18, Bool.true_and, Bool.false_or, Bool.not_false]; done)) | exact retF (by unfold liF; first | (simp only [decide_eq_false c_3, Bool.false_and]; done) | (simp only [decide_eq_true c_3, decide_eq_true c_10, Bool.true_and, Bool.true_or]; done) | (simp only [decide_eq_true c_3, decide_eq_false c_10, decide_eq_true c_18, Bool.true_and, Bool.false_or, Bool.not_true]; done) | (simp only [decide_eq_true c_3, decide_eq_false c_10, decide_eq_false c_18, Bool.true_and, Bool.false_or, Bool.not_false]; done))) hP hD hS
    · have c_10 : ¬ (j < 2) := fun h => c_10 ((nI_ltI (a := j) (b := 2) (by omega) (by omega)).mpr h)
      refine lv_iload_n zx zb dX11_lineFits_13 rfl (lv_at hl 1 rfl) ?_
      refine lv_iload_n zx zb dX11_lineFits_14 rfl (lv_at hl 0 rfl) ?_
      refine lv_iconst (v := nI 2) zx zb dX11_lineFits_15 (by decide) ?_
      refine lv_isub zx zb dX11_lineFits_16 ?_
      refine g_top (y := (nI j) - 2) rfl ?_
      refine lv_ishr zx zb dX11_lineFits_17 ?_
      refine lv_if_eq (tgt := 25) zx zb dX11_lineFits_18 (by decide) (fun c_18 => ?_) (fun c_18 => ?_)
      · have c_18 : (q >>> (((nI j) - 2) &&& 31)) = (0 : Int32) := c_18
        refine lv_iconst (v := nI 0) zx zb dX11_lineFits_25 (by decide) ?_
        exact fin _ _ (nI 0) () 26 _ dX11_lineFits_26 (fun _ => nar0) (by first | exact retT (by unfold liF; first | (simp only [decide_eq_false c_3, Bool.false_and]; done) | (simp only [decide_eq_true c_3, decide_eq_true c_10, Bool.true_and, Bool.true_or]; done) | (simp only [decide_eq_true c_3, decide_eq_false c_10, decide_eq_true c_18, Bool.true_and, Bool.false_or, Bool.not_true]; done) | (simp only [decide_eq_true c_3, decide_eq_false c_10, decide_eq_false c_18, Bool.true_and, Bool.false_or, Bool.not_false]; done)) | exact retF (by unfold liF; first | (simp only [decide_eq_false c_3, Bool.false_and]; done) | (simp only [decide_eq_true c_3, decide_eq_true c_10, Bool.true_and, Bool.true_or]; done) | (simp only [decide_eq_true c_3, decide_eq_false c_10, decide_eq_true c_18, Bool.true_and, Bool.false_or, Bool.not_true]; done) | (simp only [decide_eq_true c_3, decide_eq_false c_10, decide_eq_false c_18, Bool.true_and, Bool.false_or, Bool.not_false]; done))) hP hD hS
      · have c_18 : ¬ ((q >>> (((nI j) - 2) &&& 31)) = (0 : Int32)) := c_18
        refine lv_iconst (v := nI 1) zx zb dX11_lineFits_21 (by decide) ?_
        refine lv_goto (tgt := 26) zx zb dX11_lineFits_22 (by decide) ?_
        exact fin _ _ (nI 1) () 26 _ dX11_lineFits_26 (fun _ => nar1) (by first | exact retT (by unfold liF; first | (simp only [decide_eq_false c_3, Bool.false_and]; done) | (simp only [decide_eq_true c_3, decide_eq_true c_10, Bool.true_and, Bool.true_or]; done) | (simp only [decide_eq_true c_3, decide_eq_false c_10, decide_eq_true c_18, Bool.true_and, Bool.false_or, Bool.not_true]; done) | (simp only [decide_eq_true c_3, decide_eq_false c_10, decide_eq_false c_18, Bool.true_and, Bool.false_or, Bool.not_false]; done)) | exact retF (by unfold liF; first | (simp only [decide_eq_false c_3, Bool.false_and]; done) | (simp only [decide_eq_true c_3, decide_eq_true c_10, Bool.true_and, Bool.true_or]; done) | (simp only [decide_eq_true c_3, decide_eq_false c_10, decide_eq_true c_18, Bool.true_and, Bool.false_or, Bool.not_true]; done) | (simp only [decide_eq_true c_3, decide_eq_false c_10, decide_eq_false c_18, Bool.true_and, Bool.false_or, Bool.not_false]; done))) hP hD hS
  · have c_3 : ¬ ((q >>> (nI j)) = (0 : Int32)) := c_3
    refine lv_iconst (v := nI 0) zx zb dX11_lineFits_6 (by decide) ?_
    exact fin _ _ (nI 0) () 7 _ dX11_lineFits_7 (fun _ => nar0) (by first | exact retT (by unfold liF; first | (simp only [decide_eq_false c_3, Bool.false_and]; done) | (simp only [decide_eq_true c_3, decide_eq_true c_10, Bool.true_and, Bool.true_or]; done) | (simp only [decide_eq_true c_3, decide_eq_false c_10, decide_eq_true c_18, Bool.true_and, Bool.false_or, Bool.not_true]; done) | (simp only [decide_eq_true c_3, decide_eq_false c_10, decide_eq_false c_18, Bool.true_and, Bool.false_or, Bool.not_false]; done)) | exact retF (by unfold liF; first | (simp only [decide_eq_false c_3, Bool.false_and]; done) | (simp only [decide_eq_true c_3, decide_eq_true c_10, Bool.true_and, Bool.true_or]; done) | (simp only [decide_eq_true c_3, decide_eq_false c_10, decide_eq_true c_18, Bool.true_and, Bool.false_or, Bool.not_true]; done) | (simp only [decide_eq_true c_3, decide_eq_false c_10, decide_eq_false c_18, Bool.true_and, Bool.false_or, Bool.not_false]; done))) hP hD hS

set_option maxHeartbeats 4000000 in
set_option maxRecDepth 100000 in
theorem c_X11_shells (Γ : GG) (l : Launch) (t : Nat → Nat) (s : Nat → Nat) (x : Nat → Nat) (V : V3) (c : Nat → Nat) (k : Nat → Nat) (y : Nat → Nat) (p : Nat → Nat → Nat) (pc : Nat) (C : CoV) (q : Int32) (w : Int32) (hn : C.1 ≤ 8) : Ci Γ l yX11_shells cX11_shells 6 (some (.int)) 2 43 0 0 [.ref (t 0), .int q, .int w] [bTT Γ t s x V, bSt Γ s c y p pc, bCo Γ c k C] (fun (r : Int32) (u : V3) => r = shR C q w ∧ u = stV V (shOk C q w)) (fun (u : V3) => [bTT Γ t s x u, bSt Γ s c y p pc, bCo Γ c k C]) := by
  refine Ci.of (Or.inl rfl) (by decide) (Nat.le_of_ble_eq_true rfl) ?_
  intro pp ee ss mm bb me cd AA QQ XX hnm hA hP hD fin ls hl
  obtain ⟨zx, zb, hml, hown, hts, hK⟩ := id XX
  have hS : va_S AA ss.heap ss.heap [] := va_S.rf
  have hl : lv_has ls 6 [(0, .ref (t 0)), (1, .int q), (2, .int w)] := hl
  refine lv_aload_n zx zb dX11_shells_0 rfl (lv_at hl 0 rfl) ?_
  refine lv_iload_n zx zb dX11_shells_1 rfl (lv_at hl 1 rfl) ?_
  refine call_Vi (As := [.int q]) (rest := []) XX cv_X11_227 (c_X11_isCells Γ l t s x V c k y p pc C q (hn)) hP hD hS hA [0, 1, 2] (by decide) rfl (fun _ => rfl) 0 0 rfl rfl rfl rfl hl.1 rfl ⟨⟨by decide, by decide⟩, by decide, by decide⟩ (Nat.le_of_ble_eq_true rfl) dX11_shells_2 (fun r_2 u H locs hw hP hD hS => ?_)
  have hw := hw.symm
  subst hw
  have hP : bP Γ [bTT Γ t s x V, bSt Γ s c y p pc, bCo Γ c k C] H := hP
  have hD : bD AA [bTT Γ t s x V, bSt Γ s c y p pc, bCo Γ c k C] := hD
  refine lv_if_eq (tgt := 17) zx zb dX11_shells_5 (by decide) (fun c_5 => ?_) (fun c_5 => ?_)
  · have c_5 : (wi q 0 (bit C.1 - 1)) = false := bI_0.mp c_5
    refine lv_aload_n zx zb dX11_shells_17 rfl (lv_at hl 0 rfl) ?_
    refine lv_bipush (v := (-2)) zx zb dX11_shells_18 (by decide) ?_
    refine lv_bipush (v := (-10)) zx zb dX11_shells_20 (by decide) ?_
    refine call_Vi (As := [.int (-2), .int (-10)]) (rest := []) XX cv_X11_79 (c_X11_refused Γ l t s x V (-2) (-10) ) hP hD hS hA [0] (by decide) rfl (fun _ => rfl) 0 0 rfl rfl rfl rfl hl.1 rfl ⟨⟨by decide, by decide⟩, by decide, by decide⟩ (Nat.le_of_ble_eq_true rfl) dX11_shells_22 (fun r_22 u H locs hw hP hD hS => ?_)
    obtain ⟨hw1, hw2⟩ := hw
    have hw1 := hw1.symm
    have hw2 := hw2.symm
    subst hw1
    subst hw2
    have hP : bP Γ [bTT Γ t s x (ttRef V (-2)), bSt Γ s c y p pc, bCo Γ c k C] H := hP
    have hD : bD AA [bTT Γ t s x (ttRef V (-2)), bSt Γ s c y p pc, bCo Γ c k C] := hD
    exact fin _ _ (-10) (ttRef V (-2)) 25 _ dX11_shells_25 (fun h => by cases h) ⟨(by simp [shR, shOk, c_5]), (by simp only [stV, shOk, c_5, ttRef_b, Bool.false_and, Bool.and_false]; rfl)⟩ hP hD hS
  · have c_5 : (wi q 0 (bit C.1 - 1)) = true := bI_ne c_5
    refine lv_iload_n zx zb dX11_shells_8 rfl (lv_at hl 2 rfl) ?_
    refine lv_iconst (v := nI 0) zx zb dX11_shells_9 (by decide) ?_
    refine lv_iconst (v := nI 1) zx zb dX11_shells_10 (by decide) ?_
    refine callR_Si (As := [.int w, .int (nI 0), .int (nI 1)]) (rest := []) XX cs_X11_75 (c_X11_within Γ l w 0 1 ) hP hD hS hA nil_mem nil_D rfl hl.1 rfl ⟨⟨by decide, by decide⟩, by decide, by decide⟩ (Nat.le_of_ble_eq_true rfl) dX11_shells_11 (fun r_11 H locs hw hP hS => ?_)
    have hw := hw.symm
    subst hw
    refine lv_if_ne (tgt := 26) zx zb dX11_shells_14 (by decide) (fun c_14 => ?_) (fun c_14 => ?_)
    · have c_14 : (wi w 0 1) = true := bI_ne c_14
      refine lv_iconst (v := (-1)) zx zb dX11_shells_26 (by decide) ?_
      refine lv_istore_n (lv' := [(3, .int (-1)), (0, .ref (t 0)), (1, .int q), (2, .int w)]) zx zb dX11_shells_27 rfl hl (by decide) rfl (fun ls hl => ?_)
      refine lv_iconst (v := nI 0) zx zb dX11_shells_28 (by decide) ?_
      refine lv_istore (lv' := [(4, .int (nI 0)), (3, .int (-1)), (0, .ref (t 0)), (1, .int q), (2, .int w)]) zx zb dX11_shells_29 hl (by decide) rfl (fun ls hl => ?_)
      refine lv_iconst (v := nI 0) zx zb dX11_shells_31 (by decide) ?_
      refine lv_istore (lv' := [(5, .int (nI 0)), (4, .int (nI 0)), (3, .int (-1)), (0, .ref (t 0)), (1, .int q), (2, .int w)]) zx zb dX11_shells_32 hl (by decide) rfl (fun ls hl => ?_)
      have L34 : ∀ (nn : Nat) (i : Nat) (b : Int32) (n : Nat), (i ≤ C.1 + 1) → (b = fstN (liF q) i) → (n = cntN (liF q) i) → (n ≤ i) → C.1 + 1 - i < nn → ∀ (H : Heap) (locs : List Loc), bP Γ [bTT Γ t s x V, bSt Γ s c y p pc, bCo Γ c k C] H → bD AA [bTT Γ t s x V, bSt Γ s c y p pc, bCo Γ c k C] → va_S AA ss.heap H locs → ∀ (ls : Array Slot), lv_has ls 6 [(0, .ref (t 0)), (1, .int q), (2, .int w), (3, .int b), (4, .int (nI n)), (5, .int (nI i))] → W pp l ee { frames := 2, cells := 0, slots := 0, locals := 43 } ss mm [.ref (t 0), .int q, .int w].toArray bb me cd H locs 0 0 QQ (F0 mm 34 ls []) := by
        intro nn
        induction nn with
        | zero => intro i b n hi hb hc hq hm; exact absurd hm (Nat.not_lt_zero _)
        | succ nn ih34 =>
          intro i b n hi hb hc hq hm34 H locs hP hD hS ls hl
          refine lv_iload zx zb dX11_shells_34 (lv_at hl 5 rfl) ?_
          refine lv_aload_n zx zb dX11_shells_36 rfl (lv_at hl 0 rfl) ?_
          refine g_get (v := .ref (s 0)) XX hP 0 0 rfl rfl rfl iwX11 0 (by decide) fl_X11_30 rfl dX11_shells_37 ?_
          refine g_get (v := .ref (c 0)) XX hP 1 0 rfl rfl rfl iwX8 0 (by decide) fl_X11_100 rfl dX11_shells_40 ?_
          refine g_get (v := .int (nI (C.1))) XX hP 2 0 rfl rfl rfl iwX2 1 (by decide) fl_X11_230 rfl dX11_shells_43 ?_
          refine lv_icmp_gt (tgt := 78) zx zb dX11_shells_46 (by decide) (fun c_46 => ?_) (fun c_46 => ?_)
          · have c_46 : C.1 < i := (nI_ltI (a := C.1) (b := i) (by omega) (by omega)).mp c_46
            refine lv_iload_n zx zb dX11_shells_78 rfl (lv_at hl 2 rfl) ?_
            refine lv_if_ne (tgt := 87) zx zb dX11_shells_79 (by decide) (fun c_79 => ?_) (fun c_79 => ?_)
            · have c_79 : ¬ (w = (0 : Int32)) := c_79
              refine lv_iload_n zx zb dX11_shells_87 rfl (lv_at hl 3 rfl) ?_
              exact fin _ _ b V 88 _ dX11_shells_88 (fun h => by cases h) ⟨(by have e : i = C.1 + 1 := (by omega); subst e; unfold shR shOk; rw [c_5, c_14]; first | (simp only [Bool.and_self, if_true, if_pos c_79, hc]; done) | (simp only [Bool.and_self, if_true, if_neg c_79, hb]; done)), (by unfold shOk; rw [c_5, c_14]; rfl)⟩ hP hD hS
            · have c_79 : w = (0 : Int32) := c_79
              refine lv_iload zx zb dX11_shells_82 (lv_at hl 4 rfl) ?_
              refine lv_goto (tgt := 88) zx zb dX11_shells_84 (by decide) ?_
              exact fin _ _ (nI n) V 88 _ dX11_shells_88 (fun h => by cases h) ⟨(by have e : i = C.1 + 1 := (by omega); subst e; unfold shR shOk; rw [c_5, c_14]; first | (simp only [Bool.and_self, if_true, if_pos c_79, hc]; done) | (simp only [Bool.and_self, if_true, if_neg c_79, hb]; done)), (by unfold shOk; rw [c_5, c_14]; rfl)⟩ hP hD hS
          · have c_46 : ¬ (C.1 < i) := fun h => c_46 ((nI_ltI (a := C.1) (b := i) (by omega) (by omega)).mpr h)
            refine lv_iload zx zb dX11_shells_49 (lv_at hl 5 rfl) ?_
            refine lv_iload_n zx zb dX11_shells_51 rfl (lv_at hl 1 rfl) ?_
            refine callR_Si (As := [.int (nI i), .int q]) (rest := []) XX cs_X11_270 (c_X11_lineFits Γ l i q (by omega)) hP hD hS hA nil_mem nil_D rfl hl.1 rfl ⟨⟨by decide, by decide⟩, by decide, by decide⟩ (Nat.le_of_ble_eq_true rfl) dX11_shells_52 (fun r_52 H locs hw hP hS => ?_)
            have hw := hw.symm
            subst hw
            refine lv_if_ne (tgt := 61) zx zb dX11_shells_55 (by decide) (fun c_55 => ?_) (fun c_55 => ?_)
            · have c_55 : (liF q i) = true := bI_ne c_55
              refine lv_iload zx zb dX11_shells_61 (lv_at hl 4 rfl) ?_
              refine lv_if_ne (tgt := 69) zx zb dX11_shells_63 (by decide) (fun c_63 => ?_) (fun c_63 => ?_)
              · have c_63 : ¬ (n = 0) := fun h => c_63 ((nI_eq (a := n) (b := 0) (by omega) (by omega)).mpr h)
                refine lv_iinc (v := nI (n + 1)) (lv' := [(4, .int (nI (n + 1))), (0, .ref (t 0)), (1, .int q), (2, .int w), (3, .int b), (5, .int (nI i))]) zx zb dX11_shells_69 hl (k := 4) rfl (nI_inc _ 1) (by decide) rfl (fun ls hl => ?_)
                refine lv_iinc (v := nI (i + 1)) (lv' := [(5, .int (nI (i + 1))), (4, .int (nI (n + 1))), (0, .ref (t 0)), (1, .int q), (2, .int w), (3, .int b)]) zx zb dX11_shells_72 hl (k := 5) rfl (nI_inc _ 1) (by decide) rfl (fun ls hl => ?_)
                refine lv_goto (tgt := 34) zx zb dX11_shells_75 (by decide) ?_
                exact ih34 (i + 1) b (n + 1) (by omega) (by first | exact fst_no hb c_55 | exact fst_ys hc c_55 c_63 | exact fst_nn hb hc c_55 c_63) (by rw [cntN, ← hc, c_55]; rfl) (by omega) (by omega) _ _ hP hD hS _ (lv_sub hl [2, 3, 4, 5, 1, 0] rfl)
              · have c_63 : n = 0 := (nI_eq (a := n) (b := 0) (by omega) (by omega)).mp c_63
                refine lv_iload zx zb dX11_shells_66 (lv_at hl 5 rfl) ?_
                refine lv_istore_n (lv' := [(3, .int (nI i)), (0, .ref (t 0)), (1, .int q), (2, .int w), (4, .int (nI n)), (5, .int (nI i))]) zx zb dX11_shells_68 rfl hl (by decide) rfl (fun ls hl => ?_)
                refine lv_iinc (v := nI (n + 1)) (lv' := [(4, .int (nI (n + 1))), (3, .int (nI i)), (0, .ref (t 0)), (1, .int q), (2, .int w), (5, .int (nI i))]) zx zb dX11_shells_69 hl (k := 4) rfl (nI_inc _ 1) (by decide) rfl (fun ls hl => ?_)
                refine lv_iinc (v := nI (i + 1)) (lv' := [(5, .int (nI (i + 1))), (4, .int (nI (n + 1))), (3, .int (nI i)), (0, .ref (t 0)), (1, .int q), (2, .int w)]) zx zb dX11_shells_72 hl (k := 5) rfl (nI_inc _ 1) (by decide) rfl (fun ls hl => ?_)
                refine lv_goto (tgt := 34) zx zb dX11_shells_75 (by decide) ?_
                exact ih34 (i + 1) (nI i) (n + 1) (by omega) (by first | exact fst_no hb c_55 | exact fst_ys hc c_55 c_63 | exact fst_nn hb hc c_55 c_63) (by rw [cntN, ← hc, c_55]; rfl) (by omega) (by omega) _ _ hP hD hS _ (lv_sub hl [3, 4, 5, 2, 1, 0] rfl)
            · have c_55 : (liF q i) = false := bI_0.mp c_55
              refine lv_goto (tgt := 72) zx zb dX11_shells_58 (by decide) ?_
              refine lv_iinc (v := nI (i + 1)) (lv' := [(5, .int (nI (i + 1))), (0, .ref (t 0)), (1, .int q), (2, .int w), (3, .int b), (4, .int (nI n))]) zx zb dX11_shells_72 hl (k := 5) rfl (nI_inc _ 1) (by decide) rfl (fun ls hl => ?_)
              refine lv_goto (tgt := 34) zx zb dX11_shells_75 (by decide) ?_
              exact ih34 (i + 1) b n (by omega) (by first | exact fst_no hb c_55 | exact fst_ys hc c_55 c_63 | exact fst_nn hb hc c_55 c_63) (by rw [cntN, ← hc, c_55]; rfl) (by omega) (by omega) _ _ hP hD hS _ (lv_sub hl [1, 2, 3, 4, 5, 0] rfl)
      exact L34 _ 0 (-1) 0 (by omega) (rfl) (rfl) (by omega) (Nat.lt_succ_self _) _ _ hP hD hS _ (lv_sub hl [3, 4, 5, 2, 1, 0] rfl)
    · have c_14 : (wi w 0 1) = false := bI_0.mp c_14
      refine lv_aload_n zx zb dX11_shells_17 rfl (lv_at hl 0 rfl) ?_
      refine lv_bipush (v := (-2)) zx zb dX11_shells_18 (by decide) ?_
      refine lv_bipush (v := (-10)) zx zb dX11_shells_20 (by decide) ?_
      refine call_Vi (As := [.int (-2), .int (-10)]) (rest := []) XX cv_X11_79 (c_X11_refused Γ l t s x V (-2) (-10) ) hP hD hS hA [0] (by decide) rfl (fun _ => rfl) 0 0 rfl rfl rfl rfl hl.1 rfl ⟨⟨by decide, by decide⟩, by decide, by decide⟩ (Nat.le_of_ble_eq_true rfl) dX11_shells_22 (fun r_22 u H locs hw hP hD hS => ?_)
      obtain ⟨hw1, hw2⟩ := hw
      have hw1 := hw1.symm
      have hw2 := hw2.symm
      subst hw1
      subst hw2
      have hP : bP Γ [bTT Γ t s x (ttRef V (-2)), bSt Γ s c y p pc, bCo Γ c k C] H := hP
      have hD : bD AA [bTT Γ t s x (ttRef V (-2)), bSt Γ s c y p pc, bCo Γ c k C] := hD
      exact fin _ _ (-10) (ttRef V (-2)) 25 _ dX11_shells_25 (fun h => by cases h) ⟨(by simp [shR, shOk, c_5, c_14]), (by simp only [stV, shOk, c_5, c_14, ttRef_b, Bool.false_and, Bool.and_false]; rfl)⟩ hP hD hS
