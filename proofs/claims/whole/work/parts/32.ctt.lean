theorem cv_X11_113 : CWV RX11 113 RX9 yX9_runsIn cX9_runsIn 2 (some (.boolean)) 1 := ⟨cd_X9_runsIn, im_X9_runsIn, se_X9_X9_runsIn_X9_runsIn, in_X9, ml_X11_113, by decide +kernel⟩
theorem cv_X11_148 : CWV RX11 148 RX2 yX2_stormOf cX2_stormOf 2 (some (.int)) 1 := ⟨cd_X2_stormOf, im_X2_stormOf, se_X2_X2_stormOf_X2_stormOf, in_X2, ml_X11_148, by decide +kernel⟩
theorem cv_X11_200 : CWV RX11 200 RX2 yX2_guards cX2_guards 7 (some (.int)) 2 := ⟨cd_X2_guards, im_X2_guards, se_X2_X2_guards_X2_guards, in_X2, ml_X11_200, by decide +kernel⟩
theorem cv_X11_203 : CWV RX11 203 RX11 yX11_wetWithout cX11_wetWithout 3 (some (.int)) 1 := ⟨cd_X11_wetWithout, im_X11_wetWithout, se_X11_X11_wetWithout_X11_wetWithout, in_X11, ml_X11_203, by decide +kernel⟩
theorem cv_X11_338 : CWV RX11 338 RX2 yX2_water cX2_water 9 (some (.int)) 4 := ⟨cd_X2_water, im_X2_water, se_X2_X2_water_X2_water, in_X2, ml_X11_338, by decide +kernel⟩
theorem cv_X11_54 : CWV RX11 54 RX8 yX8_tellCoast cX8_tellCoast 3 (some (.int)) 1 := ⟨cd_X8_tellCoast, im_X8_tellCoast, se_X8_X8_tellCoast_X8_tellCoast, in_X8, ml_X11_54, by decide +kernel⟩
theorem cv_X11_58 : CWV RX11 58 RX11 yX11_told cX11_told 2 (some (.int)) 1 := ⟨cd_X11_told, im_X11_told, se_X11_X11_told_X11_told, in_X11, ml_X11_58, by decide +kernel⟩
theorem cv_X11_61 : CWV RX11 61 RX8 yX8_tellCell cX8_tellCell 6 (some (.int)) 4 := ⟨cd_X8_tellCell, im_X8_tellCell, se_X8_X8_tellCell_X8_tellCell, in_X8, ml_X11_61, by decide +kernel⟩
theorem cv_X11_65 : CWV RX11 65 RX8 yX8_tellDike cX8_tellDike 4 (some (.int)) 2 := ⟨cd_X8_tellDike, im_X8_tellDike, se_X8_X8_tellDike_X8_tellDike, in_X8, ml_X11_65, by decide +kernel⟩
theorem cv_X11_69 : CWV RX11 69 RX8 yX8_tellWant cX8_tellWant 4 (some (.int)) 2 := ⟨cd_X8_tellWant, im_X8_tellWant, se_X8_X8_tellWant_X8_tellWant, in_X8, ml_X11_69, by decide +kernel⟩
theorem cv_X11_72 : CWV RX11 72 RX8 yX8_tellMoon cX8_tellMoon 3 (some (.int)) 1 := ⟨cd_X8_tellMoon, im_X8_tellMoon, se_X8_X8_tellMoon_X8_tellMoon, in_X8, ml_X11_72, by decide +kernel⟩
theorem cv_X11_79 : CWV RX11 79 RX11 yX11_refused cX11_refused 3 (some (.int)) 2 := ⟨cd_X11_refused, im_X11_refused, se_X11_X11_refused_X11_refused, in_X11, ml_X11_79, by decide +kernel⟩
theorem cv_X11_92 : CWV RX11 92 RX8 yX8_tellTreaty cX8_tellTreaty 7 (some (.int)) 6 := ⟨cd_X8_tellTreaty, im_X8_tellTreaty, se_X8_X8_tellTreaty_X8_tellTreaty, in_X8, ml_X11_92, by decide +kernel⟩
theorem cv_X11_96 : CWV RX11 96 RX11 yX11_isTreaty cX11_isTreaty 2 (some (.boolean)) 1 := ⟨cd_X11_isTreaty, im_X11_isTreaty, se_X11_X11_isTreaty_X11_isTreaty, in_X11, ml_X11_96, by decide +kernel⟩
set_option maxHeartbeats 4000000 in
set_option maxRecDepth 100000 in
theorem c_X11_refused (Γ : GG) (l : Launch) (t : Nat → Nat) (s : Nat → Nat) (x : Nat → Nat) (V : V3) (q : Int32) (a : Int32)  : Ci Γ l yX11_refused cX11_refused 3 (some (.int)) 0 0 0 0 [.ref (t 0), .int q, .int a] [bTT Γ t s x V] (fun (r : Int32) (u : V3) => r = a ∧ u = ttRef V q) (fun (u : V3) => [bTT Γ t s x u]) := by
  refine Ci.of (Or.inl rfl) (by decide) (Nat.le_of_ble_eq_true rfl) ?_
  intro pp ee ss mm bb me cd AA QQ XX hnm hA hP hD fin ls hl
  obtain ⟨zx, zb, hml, hown, hts, hK⟩ := id XX
  have hS : va_S AA ss.heap ss.heap [] := va_S.rf
  have hl : lv_has ls 3 [(0, .ref (t 0)), (1, .int q), (2, .int a)] := hl
  refine lv_iload_n zx zb dX11_refused_0 rfl (lv_at hl 1 rfl) ?_
  refine lv_bipush (v := (-2)) zx zb dX11_refused_1 (by decide) ?_
  refine lv_icmp_ne (tgt := 19) zx zb dX11_refused_3 (by decide) (fun c_3 => ?_) (fun c_3 => ?_)
  · have c_3 : ¬ (q = (-2)) := c_3
    refine lv_iload_n zx zb dX11_refused_19 rfl (lv_at hl 1 rfl) ?_
    refine lv_bipush (v := (-3)) zx zb dX11_refused_20 (by decide) ?_
    refine lv_icmp_ne (tgt := 38) zx zb dX11_refused_22 (by decide) (fun c_22 => ?_) (fun c_22 => ?_)
    · have c_22 : ¬ (q = (-3)) := c_22
      refine lv_aload_n zx zb dX11_refused_38 rfl (lv_at hl 0 rfl) ?_
      refine lv_dup zx zb dX11_refused_39 rfl ?_
      refine g_get (v := .int V.2.2) XX hP 0 0 rfl rfl rfl iwX11 7 (by decide) fl_X11_306 rfl dX11_refused_40 ?_
      refine lv_iconst (v := nI 1) zx zb dX11_refused_43 (by decide) ?_
      refine lv_iadd zx zb dX11_refused_44 ?_
      refine g_top (y := V.2.2 + 1) rfl ?_
      refine g_put (v := .int (V.2.2 + 1)) (blk' := bTT Γ t s x (V.1, V.2.1, V.2.2 + 1)) (bs' := [bTT Γ t s x (V.1, V.2.1, V.2.2 + 1)]) XX hP hD hS 0 0 rfl rfl rfl iwX11 tyX11_ok nmX11 7 (by decide) fl_X11_306 rfl rfl rfl (Nat.le_of_ble_eq_true rfl) rfl rfl rfl dX11_refused_45 (fun H locs hP hD hS => ?_)
      refine lv_iload_n zx zb dX11_refused_48 rfl (lv_at hl 2 rfl) ?_
      exact fin _ _ a (V.1, V.2.1, V.2.2 + 1) 49 _ dX11_refused_49 (fun h => by cases h) ⟨(rfl), (by simp [ttRef, c_3, c_22])⟩ hP hD hS
    · have c_22 : q = (-3) := c_22
      refine lv_aload_n zx zb dX11_refused_25 rfl (lv_at hl 0 rfl) ?_
      refine lv_dup zx zb dX11_refused_26 rfl ?_
      refine g_get (v := .int V.2.1) XX hP 0 0 rfl rfl rfl iwX11 6 (by decide) fl_X11_303 rfl dX11_refused_27 ?_
      refine lv_iconst (v := nI 1) zx zb dX11_refused_30 (by decide) ?_
      refine lv_iadd zx zb dX11_refused_31 ?_
      refine g_top (y := V.2.1 + 1) rfl ?_
      refine g_put (v := .int (V.2.1 + 1)) (blk' := bTT Γ t s x (V.1, V.2.1 + 1, V.2.2)) (bs' := [bTT Γ t s x (V.1, V.2.1 + 1, V.2.2)]) XX hP hD hS 0 0 rfl rfl rfl iwX11 tyX11_ok nmX11 6 (by decide) fl_X11_303 rfl rfl rfl (Nat.le_of_ble_eq_true rfl) rfl rfl rfl dX11_refused_32 (fun H locs hP hD hS => ?_)
      refine lv_goto (tgt := 48) zx zb dX11_refused_35 (by decide) ?_
      refine lv_iload_n zx zb dX11_refused_48 rfl (lv_at hl 2 rfl) ?_
      exact fin _ _ a (V.1, V.2.1 + 1, V.2.2) 49 _ dX11_refused_49 (fun h => by cases h) ⟨(rfl), (by simp [ttRef, c_3, c_22])⟩ hP hD hS
  · have c_3 : q = (-2) := c_3
    refine lv_aload_n zx zb dX11_refused_6 rfl (lv_at hl 0 rfl) ?_
    refine lv_dup zx zb dX11_refused_7 rfl ?_
    refine g_get (v := .int V.1) XX hP 0 0 rfl rfl rfl iwX11 5 (by decide) fl_X11_300 rfl dX11_refused_8 ?_
    refine lv_iconst (v := nI 1) zx zb dX11_refused_11 (by decide) ?_
    refine lv_iadd zx zb dX11_refused_12 ?_
    refine g_top (y := V.1 + 1) rfl ?_
    refine g_put (v := .int (V.1 + 1)) (blk' := bTT Γ t s x (V.1 + 1, V.2.1, V.2.2)) (bs' := [bTT Γ t s x (V.1 + 1, V.2.1, V.2.2)]) XX hP hD hS 0 0 rfl rfl rfl iwX11 tyX11_ok nmX11 5 (by decide) fl_X11_300 rfl rfl rfl (Nat.le_of_ble_eq_true rfl) rfl rfl rfl dX11_refused_13 (fun H locs hP hD hS => ?_)
    refine lv_goto (tgt := 48) zx zb dX11_refused_16 (by decide) ?_
    refine lv_iload_n zx zb dX11_refused_48 rfl (lv_at hl 2 rfl) ?_
    exact fin _ _ a (V.1 + 1, V.2.1, V.2.2) 49 _ dX11_refused_49 (fun h => by cases h) ⟨(rfl), (by simp [ttRef, c_3])⟩ hP hD hS

set_option maxHeartbeats 4000000 in
set_option maxRecDepth 100000 in
theorem c_X11_told (Γ : GG) (l : Launch) (t : Nat → Nat) (s : Nat → Nat) (x : Nat → Nat) (V : V3) (c : Nat → Nat) (y : Nat → Nat) (p : Nat → Nat → Nat) (pc : Nat) (a : Int32)  : Ci Γ l yX11_told cX11_told 2 (some (.int)) 1 22 0 0 [.ref (t 0), .int a] [bTT Γ t s x V, bSt Γ s c y p pc] (fun (r : Int32) (u : V3 × Nat) => r = a ∧ u = (toldV V a, toldP a pc)) (fun (u : V3 × Nat) => [bTT Γ t s x u.1, bSt Γ s c y p u.2]) := by
  refine Ci.of (Or.inl rfl) (by decide) (Nat.le_of_ble_eq_true rfl) ?_
  intro pp ee ss mm bb me cd AA QQ XX hnm hA hP hD fin ls hl
  obtain ⟨zx, zb, hml, hown, hts, hK⟩ := id XX
  have hS : va_S AA ss.heap ss.heap [] := va_S.rf
  have hl : lv_has ls 2 [(0, .ref (t 0)), (1, .int a)] := hl
  refine lv_iload_n zx zb dX11_told_0 rfl (lv_at hl 1 rfl) ?_
  refine lv_if_ge (tgt := 11) zx zb dX11_told_1 (by decide) (fun c_1 => ?_) (fun c_1 => ?_)
  · have c_1 : (0 : Int32) ≤ a := c_1
    refine lv_aload_n zx zb dX11_told_11 rfl (lv_at hl 0 rfl) ?_
    refine g_get (v := .ref (s 0)) XX hP 0 0 rfl rfl rfl iwX11 0 (by decide) fl_X11_30 rfl dX11_told_12 ?_
    refine lv_iconst (v := nI 0) zx zb dX11_told_15 (by decide) ?_
    refine g_put (v := .int (nI 0)) (blk' := bSt Γ s c y p 0) (bs' := [bTT Γ t s x V, bSt Γ s c y p 0]) XX hP hD hS 1 0 rfl rfl rfl iwX8 tyX8_ok nmX8 3 (by decide) fl_X11_329 rfl rfl rfl (Nat.le_of_ble_eq_true rfl) rfl rfl rfl dX11_told_16 (fun H locs hP hD hS => ?_)
    refine lv_iload_n zx zb dX11_told_19 rfl (lv_at hl 1 rfl) ?_
    exact fin _ _ a (V, 0) 20 _ dX11_told_20 (fun h => by cases h) ⟨(rfl), (by first | (simp [toldV, toldP, Int32.not_lt.mpr c_1]; done) | (simp [toldV, toldP, Int32.not_le.mp c_1]; done))⟩ hP hD hS
  · have c_1 : ¬ ((0 : Int32) ≤ a) := c_1
    refine lv_aload_n zx zb dX11_told_4 rfl (lv_at hl 0 rfl) ?_
    refine lv_iload_n zx zb dX11_told_5 rfl (lv_at hl 1 rfl) ?_
    refine lv_iload_n zx zb dX11_told_6 rfl (lv_at hl 1 rfl) ?_
    refine call_Vi (As := [.int a, .int a]) (rest := []) XX cv_X11_79 (c_X11_refused Γ l t s x V a a ) hP hD hS hA [0] (by decide) rfl (fun _ => rfl) 0 0 rfl rfl rfl rfl hl.1 rfl ⟨⟨by decide, by decide⟩, by decide, by decide⟩ (Nat.le_of_ble_eq_true rfl) dX11_told_7 (fun r_7 u H locs hw hP hD hS => ?_)
    obtain ⟨hw1, hw2⟩ := hw
    have hw1 := hw1.symm
    have hw2 := hw2.symm
    subst hw1
    subst hw2
    have hP : bP Γ [bTT Γ t s x (ttRef V a), bSt Γ s c y p pc] H := hP
    have hD : bD AA [bTT Γ t s x (ttRef V a), bSt Γ s c y p pc] := hD
    exact fin _ _ a ((ttRef V a), pc) 10 _ dX11_told_10 (fun h => by cases h) ⟨(rfl), (by first | (simp [toldV, toldP, Int32.not_lt.mpr c_1]; done) | (simp [toldV, toldP, Int32.not_le.mp c_1]; done))⟩ hP hD hS

set_option maxHeartbeats 4000000 in
set_option maxRecDepth 100000 in
theorem c_X11_coast (Γ : GG) (l : Launch) (t : Nat → Nat) (s : Nat → Nat) (x : Nat → Nat) (V : V3) (c : Nat → Nat) (k : Nat → Nat) (y : Nat → Nat) (p : Nat → Nat → Nat) (pc : Nat) (C : CoV) (Y : YrV) (n : Int32)  : Ci Γ l yX11_coast cX11_coast 2 (some (.int)) 3 68 0 0 [.ref (t 0), .int n] [bTT Γ t s x V, bSt Γ s c y p pc, bCo Γ c k C, bYr Γ y Y] (fun (r : Int32) (u : V3 × Nat × CoV × YrV) => r = tCoR n C ∧ u = (toldV V (tCoR n C), toldP (tCoR n C) pc, (tCo n C Y).1, (tCo n C Y).2)) (fun (u : V3 × Nat × CoV × YrV) => [bTT Γ t s x u.1, bSt Γ s c y p u.2.1, bCo Γ c k u.2.2.1, bYr Γ y u.2.2.2]) := by
  refine Ci.of (Or.inl rfl) (by decide) (Nat.le_of_ble_eq_true rfl) ?_
  intro pp ee ss mm bb me cd AA QQ XX hnm hA hP hD fin ls hl
  obtain ⟨zx, zb, hml, hown, hts, hK⟩ := id XX
  have hS : va_S AA ss.heap ss.heap [] := va_S.rf
  have hl : lv_has ls 2 [(0, .ref (t 0)), (1, .int n)] := hl
  refine lv_aload_n zx zb dX11_coast_0 rfl (lv_at hl 0 rfl) ?_
  refine lv_aload_n zx zb dX11_coast_1 rfl (lv_at hl 0 rfl) ?_
  refine g_get (v := .ref (s 0)) XX hP 0 0 rfl rfl rfl iwX11 0 (by decide) fl_X11_30 rfl dX11_coast_2 ?_
  refine lv_iload_n zx zb dX11_coast_5 rfl (lv_at hl 1 rfl) ?_
  refine call_Vi (As := [.int n]) (rest := [.ref (t 0)]) XX cv_X11_54 (c_X8_tellCoast Γ l s c k y p pc C Y n ) hP hD hS hA [1, 2, 3] (by decide) rfl (fun _ => rfl) 1 0 rfl rfl rfl rfl hl.1 rfl ⟨⟨by decide, by decide⟩, by decide, by decide⟩ (Nat.le_of_ble_eq_true rfl) dX11_coast_6 (fun r_6 u H locs hw hP hD hS => ?_)
  obtain ⟨hw1, hw2⟩ := hw
  have hw1 := hw1.symm
  have hw2 := hw2.symm
  subst hw1
  subst hw2
  have hP : bP Γ [bTT Γ t s x V, bSt Γ s c y p pc, bCo Γ c k ((tCo n C Y).1), bYr Γ y ((tCo n C Y).2)] H := hP
  have hD : bD AA [bTT Γ t s x V, bSt Γ s c y p pc, bCo Γ c k ((tCo n C Y).1), bYr Γ y ((tCo n C Y).2)] := hD
  refine call_Vi (As := [.int (tCoR n C)]) (rest := []) XX cv_X11_58 (c_X11_told Γ l t s x V c y p pc (tCoR n C) ) hP hD hS hA [0, 1] (by decide) rfl (fun _ => rfl) 0 0 rfl rfl rfl rfl hl.1 rfl ⟨⟨by decide, by decide⟩, by decide, by decide⟩ (Nat.le_of_ble_eq_true rfl) dX11_coast_9 (fun r_9 u H locs hw hP hD hS => ?_)
  obtain ⟨hw1, hw2⟩ := hw
  have hw1 := hw1.symm
  have hw2 := hw2.symm
  subst hw1
  subst hw2
  have hP : bP Γ [bTT Γ t s x ((toldV V (tCoR n C), toldP (tCoR n C) pc).1), bSt Γ s c y p ((toldV V (tCoR n C), toldP (tCoR n C) pc).2), bCo Γ c k ((tCo n C Y).1), bYr Γ y ((tCo n C Y).2)] H := hP
  have hD : bD AA [bTT Γ t s x ((toldV V (tCoR n C), toldP (tCoR n C) pc).1), bSt Γ s c y p ((toldV V (tCoR n C), toldP (tCoR n C) pc).2), bCo Γ c k ((tCo n C Y).1), bYr Γ y ((tCo n C Y).2)] := hD
  exact fin _ _ (tCoR n C) ((toldV V (tCoR n C), toldP (tCoR n C) pc).1, (toldV V (tCoR n C), toldP (tCoR n C) pc).2, (tCo n C Y).1, (tCo n C Y).2) 12 _ dX11_coast_12 (fun h => by cases h) ⟨(rfl), (rfl)⟩ hP hD hS

set_option maxHeartbeats 4000000 in
set_option maxRecDepth 100000 in
theorem c_X11_cell (Γ : GG) (l : Launch) (t : Nat → Nat) (s : Nat → Nat) (x : Nat → Nat) (V : V3) (c : Nat → Nat) (k : Nat → Nat) (y : Nat → Nat) (p : Nat → Nat → Nat) (pc : Nat) (C : CoV) (Y : YrV) (a : Int32) (h : Int32) (w : Int32) (q : Int32) (hn : C.1 ≤ 8) : Ci Γ l yX11_cell cX11_cell 5 (some (.int)) 3 68 0 0 [.ref (t 0), .int a, .int h, .int w, .int q] [bTT Γ t s x V, bSt Γ s c y p pc, bCo Γ c k C, bYr Γ y Y] (fun (r : Int32) (u : V3 × Nat × CoV × YrV) => r = tCeR C a h w q ∧ u = (toldV V (tCeR C a h w q), toldP (tCeR C a h w q) pc, (tCe C Y a h w q).1, (tCe C Y a h w q).2)) (fun (u : V3 × Nat × CoV × YrV) => [bTT Γ t s x u.1, bSt Γ s c y p u.2.1, bCo Γ c k u.2.2.1, bYr Γ y u.2.2.2]) := by
  refine Ci.of (Or.inl rfl) (by decide) (Nat.le_of_ble_eq_true rfl) ?_
  intro pp ee ss mm bb me cd AA QQ XX hnm hA hP hD fin ls hl
  obtain ⟨zx, zb, hml, hown, hts, hK⟩ := id XX
  have hS : va_S AA ss.heap ss.heap [] := va_S.rf
  have hl : lv_has ls 5 [(0, .ref (t 0)), (1, .int a), (2, .int h), (3, .int w), (4, .int q)] := hl
  refine lv_aload_n zx zb dX11_cell_0 rfl (lv_at hl 0 rfl) ?_
  refine lv_aload_n zx zb dX11_cell_1 rfl (lv_at hl 0 rfl) ?_
  refine g_get (v := .ref (s 0)) XX hP 0 0 rfl rfl rfl iwX11 0 (by decide) fl_X11_30 rfl dX11_cell_2 ?_
  refine lv_iload_n zx zb dX11_cell_5 rfl (lv_at hl 1 rfl) ?_
  refine lv_iload_n zx zb dX11_cell_6 rfl (lv_at hl 2 rfl) ?_
  refine lv_iload_n zx zb dX11_cell_7 rfl (lv_at hl 3 rfl) ?_
  refine lv_iload zx zb dX11_cell_8 (lv_at hl 4 rfl) ?_
  refine call_Vi (As := [.int a, .int h, .int w, .int q]) (rest := [.ref (t 0)]) XX cv_X11_61 (c_X8_tellCell Γ l s c k y p pc C Y a h w q (hn)) hP hD hS hA [1, 2, 3] (by decide) rfl (fun _ => rfl) 1 0 rfl rfl rfl rfl hl.1 rfl ⟨⟨by decide, by decide⟩, by decide, by decide⟩ (Nat.le_of_ble_eq_true rfl) dX11_cell_10 (fun r_10 u H locs hw hP hD hS => ?_)
  obtain ⟨hw1, hw2⟩ := hw
  have hw1 := hw1.symm
  have hw2 := hw2.symm
  subst hw1
  subst hw2
  have hP : bP Γ [bTT Γ t s x V, bSt Γ s c y p pc, bCo Γ c k ((tCe C Y a h w q).1), bYr Γ y ((tCe C Y a h w q).2)] H := hP
  have hD : bD AA [bTT Γ t s x V, bSt Γ s c y p pc, bCo Γ c k ((tCe C Y a h w q).1), bYr Γ y ((tCe C Y a h w q).2)] := hD
  refine call_Vi (As := [.int (tCeR C a h w q)]) (rest := []) XX cv_X11_58 (c_X11_told Γ l t s x V c y p pc (tCeR C a h w q) ) hP hD hS hA [0, 1] (by decide) rfl (fun _ => rfl) 0 0 rfl rfl rfl rfl hl.1 rfl ⟨⟨by decide, by decide⟩, by decide, by decide⟩ (Nat.le_of_ble_eq_true rfl) dX11_cell_13 (fun r_13 u H locs hw hP hD hS => ?_)
  obtain ⟨hw1, hw2⟩ := hw
  have hw1 := hw1.symm
  have hw2 := hw2.symm
  subst hw1
  subst hw2
  have hP : bP Γ [bTT Γ t s x ((toldV V (tCeR C a h w q), toldP (tCeR C a h w q) pc).1), bSt Γ s c y p ((toldV V (tCeR C a h w q), toldP (tCeR C a h w q) pc).2), bCo Γ c k ((tCe C Y a h w q).1), bYr Γ y ((tCe C Y a h w q).2)] H := hP
  have hD : bD AA [bTT Γ t s x ((toldV V (tCeR C a h w q), toldP (tCeR C a h w q) pc).1), bSt Γ s c y p ((toldV V (tCeR C a h w q), toldP (tCeR C a h w q) pc).2), bCo Γ c k ((tCe C Y a h w q).1), bYr Γ y ((tCe C Y a h w q).2)] := hD
  exact fin _ _ (tCeR C a h w q) ((toldV V (tCeR C a h w q), toldP (tCeR C a h w q) pc).1, (toldV V (tCeR C a h w q), toldP (tCeR C a h w q) pc).2, (tCe C Y a h w q).1, (tCe C Y a h w q).2) 16 _ dX11_cell_16 (fun h => by cases h) ⟨(rfl), (rfl)⟩ hP hD hS

set_option maxHeartbeats 4000000 in
set_option maxRecDepth 100000 in
theorem c_X11_dike (Γ : GG) (l : Launch) (t : Nat → Nat) (s : Nat → Nat) (x : Nat → Nat) (V : V3) (c : Nat → Nat) (k : Nat → Nat) (y : Nat → Nat) (p : Nat → Nat → Nat) (pc : Nat) (C : CoV) (Y : YrV) (a : Int32) (n : Int32) (hn : C.1 ≤ 8) : Ci Γ l yX11_dike cX11_dike 3 (some (.int)) 3 66 0 0 [.ref (t 0), .int a, .int n] [bTT Γ t s x V, bSt Γ s c y p pc, bCo Γ c k C, bYr Γ y Y] (fun (r : Int32) (u : V3 × Nat × YrV) => r = tDiR C Y a n ∧ u = (toldV V (tDiR C Y a n), toldP (tDiR C Y a n) pc, tDi C Y a n)) (fun (u : V3 × Nat × YrV) => [bTT Γ t s x u.1, bSt Γ s c y p u.2.1, bCo Γ c k C, bYr Γ y u.2.2]) := by
  refine Ci.of (Or.inl rfl) (by decide) (Nat.le_of_ble_eq_true rfl) ?_
  intro pp ee ss mm bb me cd AA QQ XX hnm hA hP hD fin ls hl
  obtain ⟨zx, zb, hml, hown, hts, hK⟩ := id XX
  have hS : va_S AA ss.heap ss.heap [] := va_S.rf
  have hl : lv_has ls 3 [(0, .ref (t 0)), (1, .int a), (2, .int n)] := hl
  refine lv_aload_n zx zb dX11_dike_0 rfl (lv_at hl 0 rfl) ?_
  refine lv_aload_n zx zb dX11_dike_1 rfl (lv_at hl 0 rfl) ?_
  refine g_get (v := .ref (s 0)) XX hP 0 0 rfl rfl rfl iwX11 0 (by decide) fl_X11_30 rfl dX11_dike_2 ?_
  refine lv_iload_n zx zb dX11_dike_5 rfl (lv_at hl 1 rfl) ?_
  refine lv_iload_n zx zb dX11_dike_6 rfl (lv_at hl 2 rfl) ?_
  refine call_Vi (As := [.int a, .int n]) (rest := [.ref (t 0)]) XX cv_X11_65 (c_X8_tellDike Γ l s c k y p pc C Y a n (hn)) hP hD hS hA [1, 2, 3] (by decide) rfl (fun _ => rfl) 1 0 rfl rfl rfl rfl hl.1 rfl ⟨⟨by decide, by decide⟩, by decide, by decide⟩ (Nat.le_of_ble_eq_true rfl) dX11_dike_7 (fun r_7 u H locs hw hP hD hS => ?_)
  obtain ⟨hw1, hw2⟩ := hw
  have hw1 := hw1.symm
  have hw2 := hw2.symm
  subst hw1
  subst hw2
  have hP : bP Γ [bTT Γ t s x V, bSt Γ s c y p pc, bCo Γ c k C, bYr Γ y (tDi C Y a n)] H := hP
  have hD : bD AA [bTT Γ t s x V, bSt Γ s c y p pc, bCo Γ c k C, bYr Γ y (tDi C Y a n)] := hD
  refine call_Vi (As := [.int (tDiR C Y a n)]) (rest := []) XX cv_X11_58 (c_X11_told Γ l t s x V c y p pc (tDiR C Y a n) ) hP hD hS hA [0, 1] (by decide) rfl (fun _ => rfl) 0 0 rfl rfl rfl rfl hl.1 rfl ⟨⟨by decide, by decide⟩, by decide, by decide⟩ (Nat.le_of_ble_eq_true rfl) dX11_dike_10 (fun r_10 u H locs hw hP hD hS => ?_)
  obtain ⟨hw1, hw2⟩ := hw
  have hw1 := hw1.symm
  have hw2 := hw2.symm
  subst hw1
  subst hw2
  have hP : bP Γ [bTT Γ t s x ((toldV V (tDiR C Y a n), toldP (tDiR C Y a n) pc).1), bSt Γ s c y p ((toldV V (tDiR C Y a n), toldP (tDiR C Y a n) pc).2), bCo Γ c k C, bYr Γ y (tDi C Y a n)] H := hP
  have hD : bD AA [bTT Γ t s x ((toldV V (tDiR C Y a n), toldP (tDiR C Y a n) pc).1), bSt Γ s c y p ((toldV V (tDiR C Y a n), toldP (tDiR C Y a n) pc).2), bCo Γ c k C, bYr Γ y (tDi C Y a n)] := hD
  exact fin _ _ (tDiR C Y a n) ((toldV V (tDiR C Y a n), toldP (tDiR C Y a n) pc).1, (toldV V (tDiR C Y a n), toldP (tDiR C Y a n) pc).2, (tDi C Y a n)) 13 _ dX11_dike_13 (fun h => by cases h) ⟨(rfl), (rfl)⟩ hP hD hS

set_option maxHeartbeats 4000000 in
set_option maxRecDepth 100000 in
theorem c_X11_want (Γ : GG) (l : Launch) (t : Nat → Nat) (s : Nat → Nat) (x : Nat → Nat) (V : V3) (c : Nat → Nat) (k : Nat → Nat) (y : Nat → Nat) (p : Nat → Nat → Nat) (pc : Nat) (C : CoV) (a : Int32) (n : Int32)  : Ci Γ l yX11_want cX11_want 3 (some (.int)) 2 45 0 0 [.ref (t 0), .int a, .int n] [bTT Γ t s x V, bSt Γ s c y p pc, bCo Γ c k C] (fun (r : Int32) (u : V3 × Nat × CoV) => r = tWaR C a n ∧ u = (toldV V (tWaR C a n), toldP (tWaR C a n) pc, tWa C a n)) (fun (u : V3 × Nat × CoV) => [bTT Γ t s x u.1, bSt Γ s c y p u.2.1, bCo Γ c k u.2.2]) := by
  refine Ci.of (Or.inl rfl) (by decide) (Nat.le_of_ble_eq_true rfl) ?_
  intro pp ee ss mm bb me cd AA QQ XX hnm hA hP hD fin ls hl
  obtain ⟨zx, zb, hml, hown, hts, hK⟩ := id XX
  have hS : va_S AA ss.heap ss.heap [] := va_S.rf
  have hl : lv_has ls 3 [(0, .ref (t 0)), (1, .int a), (2, .int n)] := hl
  refine lv_aload_n zx zb dX11_want_0 rfl (lv_at hl 0 rfl) ?_
  refine lv_aload_n zx zb dX11_want_1 rfl (lv_at hl 0 rfl) ?_
  refine g_get (v := .ref (s 0)) XX hP 0 0 rfl rfl rfl iwX11 0 (by decide) fl_X11_30 rfl dX11_want_2 ?_
  refine lv_iload_n zx zb dX11_want_5 rfl (lv_at hl 1 rfl) ?_
  refine lv_iload_n zx zb dX11_want_6 rfl (lv_at hl 2 rfl) ?_
  refine call_Vi (As := [.int a, .int n]) (rest := [.ref (t 0)]) XX cv_X11_69 (c_X8_tellWant Γ l s c k y p pc C a n ) hP hD hS hA [1, 2] (by decide) rfl (fun _ => rfl) 1 0 rfl rfl rfl rfl hl.1 rfl ⟨⟨by decide, by decide⟩, by decide, by decide⟩ (Nat.le_of_ble_eq_true rfl) dX11_want_7 (fun r_7 u H locs hw hP hD hS => ?_)
  obtain ⟨hw1, hw2⟩ := hw
  have hw1 := hw1.symm
  have hw2 := hw2.symm
  subst hw1
  subst hw2
  have hP : bP Γ [bTT Γ t s x V, bSt Γ s c y p pc, bCo Γ c k (tWa C a n)] H := hP
  have hD : bD AA [bTT Γ t s x V, bSt Γ s c y p pc, bCo Γ c k (tWa C a n)] := hD
  refine call_Vi (As := [.int (tWaR C a n)]) (rest := []) XX cv_X11_58 (c_X11_told Γ l t s x V c y p pc (tWaR C a n) ) hP hD hS hA [0, 1] (by decide) rfl (fun _ => rfl) 0 0 rfl rfl rfl rfl hl.1 rfl ⟨⟨by decide, by decide⟩, by decide, by decide⟩ (Nat.le_of_ble_eq_true rfl) dX11_want_10 (fun r_10 u H locs hw hP hD hS => ?_)
  obtain ⟨hw1, hw2⟩ := hw
  have hw1 := hw1.symm
  have hw2 := hw2.symm
  subst hw1
  subst hw2
  have hP : bP Γ [bTT Γ t s x ((toldV V (tWaR C a n), toldP (tWaR C a n) pc).1), bSt Γ s c y p ((toldV V (tWaR C a n), toldP (tWaR C a n) pc).2), bCo Γ c k (tWa C a n)] H := hP
  have hD : bD AA [bTT Γ t s x ((toldV V (tWaR C a n), toldP (tWaR C a n) pc).1), bSt Γ s c y p ((toldV V (tWaR C a n), toldP (tWaR C a n) pc).2), bCo Γ c k (tWa C a n)] := hD
  exact fin _ _ (tWaR C a n) ((toldV V (tWaR C a n), toldP (tWaR C a n) pc).1, (toldV V (tWaR C a n), toldP (tWaR C a n) pc).2, (tWa C a n)) 13 _ dX11_want_13 (fun h => by cases h) ⟨(rfl), (rfl)⟩ hP hD hS

set_option maxHeartbeats 4000000 in
set_option maxRecDepth 100000 in
theorem c_X11_moon (Γ : GG) (l : Launch) (t : Nat → Nat) (s : Nat → Nat) (x : Nat → Nat) (V : V3) (c : Nat → Nat) (k : Nat → Nat) (y : Nat → Nat) (p : Nat → Nat → Nat) (pc : Nat) (C : CoV) (n : Int32)  : Ci Γ l yX11_moon cX11_moon 2 (some (.int)) 2 44 0 0 [.ref (t 0), .int n] [bTT Γ t s x V, bSt Γ s c y p pc, bCo Γ c k C] (fun (r : Int32) (u : V3 × Nat × CoV) => r = tMoR C n ∧ u = (toldV V (tMoR C n), toldP (tMoR C n) pc, tMo C n)) (fun (u : V3 × Nat × CoV) => [bTT Γ t s x u.1, bSt Γ s c y p u.2.1, bCo Γ c k u.2.2]) := by
  refine Ci.of (Or.inl rfl) (by decide) (Nat.le_of_ble_eq_true rfl) ?_
  intro pp ee ss mm bb me cd AA QQ XX hnm hA hP hD fin ls hl
  obtain ⟨zx, zb, hml, hown, hts, hK⟩ := id XX
  have hS : va_S AA ss.heap ss.heap [] := va_S.rf
  have hl : lv_has ls 2 [(0, .ref (t 0)), (1, .int n)] := hl
  refine lv_aload_n zx zb dX11_moon_0 rfl (lv_at hl 0 rfl) ?_
  refine lv_aload_n zx zb dX11_moon_1 rfl (lv_at hl 0 rfl) ?_
  refine g_get (v := .ref (s 0)) XX hP 0 0 rfl rfl rfl iwX11 0 (by decide) fl_X11_30 rfl dX11_moon_2 ?_
  refine lv_iload_n zx zb dX11_moon_5 rfl (lv_at hl 1 rfl) ?_
  refine call_Vi (As := [.int n]) (rest := [.ref (t 0)]) XX cv_X11_72 (c_X8_tellMoon Γ l s c k y p pc C n ) hP hD hS hA [1, 2] (by decide) rfl (fun _ => rfl) 1 0 rfl rfl rfl rfl hl.1 rfl ⟨⟨by decide, by decide⟩, by decide, by decide⟩ (Nat.le_of_ble_eq_true rfl) dX11_moon_6 (fun r_6 u H locs hw hP hD hS => ?_)
  obtain ⟨hw1, hw2⟩ := hw
  have hw1 := hw1.symm
  have hw2 := hw2.symm
  subst hw1
  subst hw2
  have hP : bP Γ [bTT Γ t s x V, bSt Γ s c y p pc, bCo Γ c k (tMo C n)] H := hP
  have hD : bD AA [bTT Γ t s x V, bSt Γ s c y p pc, bCo Γ c k (tMo C n)] := hD
  refine call_Vi (As := [.int (tMoR C n)]) (rest := []) XX cv_X11_58 (c_X11_told Γ l t s x V c y p pc (tMoR C n) ) hP hD hS hA [0, 1] (by decide) rfl (fun _ => rfl) 0 0 rfl rfl rfl rfl hl.1 rfl ⟨⟨by decide, by decide⟩, by decide, by decide⟩ (Nat.le_of_ble_eq_true rfl) dX11_moon_9 (fun r_9 u H locs hw hP hD hS => ?_)
  obtain ⟨hw1, hw2⟩ := hw
  have hw1 := hw1.symm
  have hw2 := hw2.symm
  subst hw1
  subst hw2
  have hP : bP Γ [bTT Γ t s x ((toldV V (tMoR C n), toldP (tMoR C n) pc).1), bSt Γ s c y p ((toldV V (tMoR C n), toldP (tMoR C n) pc).2), bCo Γ c k (tMo C n)] H := hP
  have hD : bD AA [bTT Γ t s x ((toldV V (tMoR C n), toldP (tMoR C n) pc).1), bSt Γ s c y p ((toldV V (tMoR C n), toldP (tMoR C n) pc).2), bCo Γ c k (tMo C n)] := hD
  exact fin _ _ (tMoR C n) ((toldV V (tMoR C n), toldP (tMoR C n) pc).1, (toldV V (tMoR C n), toldP (tMoR C n) pc).2, (tMo C n)) 12 _ dX11_moon_12 (fun h => by cases h) ⟨(rfl), (rfl)⟩ hP hD hS

set_option maxHeartbeats 4000000 in
set_option maxRecDepth 100000 in
theorem c_X11_bells (Γ : GG) (l : Launch) (t : Nat → Nat) (s : Nat → Nat) (x : Nat → Nat) (V : V3) (c : Nat → Nat) (k : Nat → Nat) (y : Nat → Nat) (p : Nat → Nat → Nat) (pc : Nat) (C : CoV) (Y : YrV) (n : Int32)  : Ci Γ l yX11_bells cX11_bells 3 (some (.int)) 2 43 0 0 [.ref (t 0), .int n] [bTT Γ t s x V, bSt Γ s c y p pc, bYr Γ y Y] (fun (r : Int32) (u : V3 × Nat × YrV) => r = beR Y n ∧ u = (toldV V (beR Y n), toldP (beR Y n) pc, beY Y n)) (fun (u : V3 × Nat × YrV) => [bTT Γ t s x u.1, bSt Γ s c y p u.2.1, bYr Γ y u.2.2]) := by
  refine Ci.of (Or.inl rfl) (by decide) (Nat.le_of_ble_eq_true rfl) ?_
  intro pp ee ss mm bb me cd AA QQ XX hnm hA hP hD fin ls hl
  obtain ⟨zx, zb, hml, hown, hts, hK⟩ := id XX
  have hS : va_S AA ss.heap ss.heap [] := va_S.rf
  have hl : lv_has ls 3 [(0, .ref (t 0)), (1, .int n)] := hl
  refine lv_iload_n zx zb dX11_bells_0 rfl (lv_at hl 1 rfl) ?_
  refine lv_iconst (v := nI 0) zx zb dX11_bells_1 (by decide) ?_
  refine lv_sipush (v := nI 999) zx zb dX11_bells_2 (by decide) ?_
  refine callR_Si (As := [.int n, .int (nI 0), .int (nI 999)]) (rest := []) XX cs_X11_75 (c_X11_within Γ l n 0 999 ) hP hD hS hA nil_mem nil_D rfl hl.1 rfl ⟨⟨by decide, by decide⟩, by decide, by decide⟩ (Nat.le_of_ble_eq_true rfl) dX11_bells_5 (fun r_5 H locs hw hP hS => ?_)
  have hw := hw.symm
  subst hw
  refine lv_if_ne (tgt := 20) zx zb dX11_bells_8 (by decide) (fun c_8 => ?_) (fun c_8 => ?_)
  · have c_8 : (wi n 0 999) = true := bI_ne c_8
    refine lv_aload_n zx zb dX11_bells_20 rfl (lv_at hl 0 rfl) ?_
    refine g_get (v := .ref (s 0)) XX hP 0 0 rfl rfl rfl iwX11 0 (by decide) fl_X11_30 rfl dX11_bells_21 ?_
    refine g_get (v := .ref (y 0)) XX hP 1 0 rfl rfl rfl iwX8 1 (by decide) fl_X11_82 rfl dX11_bells_24 ?_
    refine g_get (v := .int Y.2.1) XX hP 2 0 rfl rfl rfl iwX10 1 (by decide) fl_X11_86 rfl dX11_bells_27 ?_
    refine lv_istore_n (lv' := [(2, .int Y.2.1), (0, .ref (t 0)), (1, .int n)]) zx zb dX11_bells_30 rfl hl (by decide) rfl (fun ls hl => ?_)
    refine lv_aload_n zx zb dX11_bells_31 rfl (lv_at hl 1 rfl) ?_
    refine g_get (v := .ref (s 0)) XX hP 0 0 rfl rfl rfl iwX11 0 (by decide) fl_X11_30 rfl dX11_bells_32 ?_
    refine g_get (v := .ref (y 0)) XX hP 1 0 rfl rfl rfl iwX8 1 (by decide) fl_X11_82 rfl dX11_bells_35 ?_
    refine lv_iload_n zx zb dX11_bells_38 rfl (lv_at hl 2 rfl) ?_
    refine g_put (v := .int n) (blk' := bYr Γ y (Y.1, n, Y.2.2.1, Y.2.2.2.1, Y.2.2.2.2)) (bs' := [bTT Γ t s x V, bSt Γ s c y p pc, bYr Γ y (Y.1, n, Y.2.2.1, Y.2.2.2.1, Y.2.2.2.2)]) XX hP hD hS 2 0 rfl rfl rfl iwX10 tyX10_ok nmX10 1 (by decide) fl_X11_86 rfl rfl rfl (Nat.le_of_ble_eq_true rfl) rfl rfl rfl dX11_bells_39 (fun H locs hP hD hS => ?_)
    refine lv_aload_n zx zb dX11_bells_42 rfl (lv_at hl 1 rfl) ?_
    refine lv_iload_n zx zb dX11_bells_43 rfl (lv_at hl 0 rfl) ?_
    refine call_Vi (As := [.int Y.2.1]) (rest := []) XX cv_X11_58 (c_X11_told Γ l t s x V c y p pc Y.2.1 ) hP hD hS hA [0, 1] (by decide) rfl (fun _ => rfl) 0 0 rfl rfl rfl rfl hl.1 rfl ⟨⟨by decide, by decide⟩, by decide, by decide⟩ (Nat.le_of_ble_eq_true rfl) dX11_bells_44 (fun r_44 u H locs hw hP hD hS => ?_)
    obtain ⟨hw1, hw2⟩ := hw
    have hw1 := hw1.symm
    have hw2 := hw2.symm
    subst hw1
    subst hw2
    have hP : bP Γ [bTT Γ t s x ((toldV V Y.2.1, toldP Y.2.1 pc).1), bSt Γ s c y p ((toldV V Y.2.1, toldP Y.2.1 pc).2), bYr Γ y (Y.1, n, Y.2.2.1, Y.2.2.2.1, Y.2.2.2.2)] H := hP
    have hD : bD AA [bTT Γ t s x ((toldV V Y.2.1, toldP Y.2.1 pc).1), bSt Γ s c y p ((toldV V Y.2.1, toldP Y.2.1 pc).2), bYr Γ y (Y.1, n, Y.2.2.1, Y.2.2.2.1, Y.2.2.2.2)] := hD
    exact fin _ _ Y.2.1 ((toldV V Y.2.1, toldP Y.2.1 pc).1, (toldV V Y.2.1, toldP Y.2.1 pc).2, (Y.1, n, Y.2.2.1, Y.2.2.2.1, Y.2.2.2.2)) 47 _ dX11_bells_47 (fun h => by cases h) ⟨(by simp [beR, c_8]), (by simp [beR, beY, c_8])⟩ hP hD hS
  · have c_8 : (wi n 0 999) = false := bI_0.mp c_8
    refine lv_aload_n zx zb dX11_bells_11 rfl (lv_at hl 0 rfl) ?_
    refine lv_bipush (v := (-2)) zx zb dX11_bells_12 (by decide) ?_
    refine lv_bipush (v := (-2)) zx zb dX11_bells_14 (by decide) ?_
    refine call_Vi (As := [.int (-2), .int (-2)]) (rest := []) XX cv_X11_79 (c_X11_refused Γ l t s x V (-2) (-2) ) hP hD hS hA [0] (by decide) rfl (fun _ => rfl) 0 0 rfl rfl rfl rfl hl.1 rfl ⟨⟨by decide, by decide⟩, by decide, by decide⟩ (Nat.le_of_ble_eq_true rfl) dX11_bells_16 (fun r_16 u H locs hw hP hD hS => ?_)
    obtain ⟨hw1, hw2⟩ := hw
    have hw1 := hw1.symm
    have hw2 := hw2.symm
    subst hw1
    subst hw2
    have hP : bP Γ [bTT Γ t s x (ttRef V (-2)), bSt Γ s c y p pc, bYr Γ y Y] H := hP
    have hD : bD AA [bTT Γ t s x (ttRef V (-2)), bSt Γ s c y p pc, bYr Γ y Y] := hD
    exact fin _ _ (-2) ((ttRef V (-2)), pc, Y) 19 _ dX11_bells_19 (fun h => by cases h) ⟨(by simp [beR, c_8]), (by simp only [beR, beY, c_8]; rfl)⟩ hP hD hS

set_option maxHeartbeats 4000000 in
set_option maxRecDepth 100000 in
theorem c_X11_treaty (Γ : GG) (l : Launch) (t : Nat → Nat) (s : Nat → Nat) (x : Nat → Nat) (V : V3) (c : Nat → Nat) (k : Nat → Nat) (y : Nat → Nat) (p : Nat → Nat → Nat) (pc : Nat) (C : CoV) (tr : Nat → TrV) (d : Int32) (a : Int32) (b : Int32) (f : Int32) (g : Int32) (q : Int32) (htc : C.2.2.2.2.2.2.1 ≤ 6) : Ci Γ l yX11_treaty cX11_treaty 7 (some (.int)) 5 116 0 0 [.ref (t 0), .int d, .int a, .int b, .int f, .int g, .int q] [bTT Γ t s x V, bSt Γ s c y p pc, bCo Γ c k C, bTs Γ c k tr, bKd Γ k] (fun (r : Int32) (u : V3 × Nat × CoV × (Nat → TrV)) => r = tTrR C d a b f g q ∧ u = (toldV V (tTrR C d a b f g q), toldP (tTrR C d a b f g q) pc, (tTr C tr d a b f g q).1, (tTr C tr d a b f g q).2)) (fun (u : V3 × Nat × CoV × (Nat → TrV)) => [bTT Γ t s x u.1, bSt Γ s c y p u.2.1, bCo Γ c k u.2.2.1, bTs Γ c k u.2.2.2, bKd Γ k]) := by
  refine Ci.of (Or.inl rfl) (by decide) (Nat.le_of_ble_eq_true rfl) ?_
  intro pp ee ss mm bb me cd AA QQ XX hnm hA hP hD fin ls hl
  obtain ⟨zx, zb, hml, hown, hts, hK⟩ := id XX
  have hS : va_S AA ss.heap ss.heap [] := va_S.rf
  have hl : lv_has ls 7 [(0, .ref (t 0)), (1, .int d), (2, .int a), (3, .int b), (4, .int f), (5, .int g), (6, .int q)] := hl
  refine lv_aload_n zx zb dX11_treaty_0 rfl (lv_at hl 0 rfl) ?_
  refine lv_aload_n zx zb dX11_treaty_1 rfl (lv_at hl 0 rfl) ?_
  refine g_get (v := .ref (s 0)) XX hP 0 0 rfl rfl rfl iwX11 0 (by decide) fl_X11_30 rfl dX11_treaty_2 ?_
  refine lv_iload_n zx zb dX11_treaty_5 rfl (lv_at hl 1 rfl) ?_
  refine lv_iload_n zx zb dX11_treaty_6 rfl (lv_at hl 2 rfl) ?_
  refine lv_iload_n zx zb dX11_treaty_7 rfl (lv_at hl 3 rfl) ?_
  refine lv_iload zx zb dX11_treaty_8 (lv_at hl 4 rfl) ?_
  refine lv_iload zx zb dX11_treaty_10 (lv_at hl 5 rfl) ?_
  refine lv_iload zx zb dX11_treaty_12 (lv_at hl 6 rfl) ?_
  refine call_Vi (As := [.int d, .int a, .int b, .int f, .int g, .int q]) (rest := [.ref (t 0)]) XX cv_X11_92 (c_X8_tellTreaty Γ l s c k y p pc C tr d a b f g q (htc)) hP hD hS hA [1, 2, 3, 4] (by decide) rfl (fun _ => rfl) 1 0 rfl rfl rfl rfl hl.1 rfl ⟨⟨by decide, by decide⟩, by decide, by decide⟩ (Nat.le_of_ble_eq_true rfl) dX11_treaty_14 (fun r_14 u H locs hw hP hD hS => ?_)
  obtain ⟨hw1, hw2⟩ := hw
  have hw1 := hw1.symm
  have hw2 := hw2.symm
  subst hw1
  subst hw2
  have hP : bP Γ [bTT Γ t s x V, bSt Γ s c y p pc, bCo Γ c k ((tTr C tr d a b f g q).1), bTs Γ c k ((tTr C tr d a b f g q).2), bKd Γ k] H := hP
  have hD : bD AA [bTT Γ t s x V, bSt Γ s c y p pc, bCo Γ c k ((tTr C tr d a b f g q).1), bTs Γ c k ((tTr C tr d a b f g q).2), bKd Γ k] := hD
  refine call_Vi (As := [.int (tTrR C d a b f g q)]) (rest := []) XX cv_X11_58 (c_X11_told Γ l t s x V c y p pc (tTrR C d a b f g q) ) hP hD hS hA [0, 1] (by decide) rfl (fun _ => rfl) 0 0 rfl rfl rfl rfl hl.1 rfl ⟨⟨by decide, by decide⟩, by decide, by decide⟩ (Nat.le_of_ble_eq_true rfl) dX11_treaty_17 (fun r_17 u H locs hw hP hD hS => ?_)
  obtain ⟨hw1, hw2⟩ := hw
  have hw1 := hw1.symm
  have hw2 := hw2.symm
  subst hw1
  subst hw2
  have hP : bP Γ [bTT Γ t s x ((toldV V (tTrR C d a b f g q), toldP (tTrR C d a b f g q) pc).1), bSt Γ s c y p ((toldV V (tTrR C d a b f g q), toldP (tTrR C d a b f g q) pc).2), bCo Γ c k ((tTr C tr d a b f g q).1), bTs Γ c k ((tTr C tr d a b f g q).2), bKd Γ k] H := hP
  have hD : bD AA [bTT Γ t s x ((toldV V (tTrR C d a b f g q), toldP (tTrR C d a b f g q) pc).1), bSt Γ s c y p ((toldV V (tTrR C d a b f g q), toldP (tTrR C d a b f g q) pc).2), bCo Γ c k ((tTr C tr d a b f g q).1), bTs Γ c k ((tTr C tr d a b f g q).2), bKd Γ k] := hD
  exact fin _ _ (tTrR C d a b f g q) ((toldV V (tTrR C d a b f g q), toldP (tTrR C d a b f g q) pc).1, (toldV V (tTrR C d a b f g q), toldP (tTrR C d a b f g q) pc).2, (tTr C tr d a b f g q).1, (tTr C tr d a b f g q).2) 20 _ dX11_treaty_20 (fun h => by cases h) ⟨(rfl), (rfl)⟩ hP hD hS

set_option maxHeartbeats 4000000 in
set_option maxRecDepth 100000 in
theorem c_X11_isCell (Γ : GG) (l : Launch) (t : Nat → Nat) (s : Nat → Nat) (x : Nat → Nat) (V : V3) (c : Nat → Nat) (k : Nat → Nat) (y : Nat → Nat) (p : Nat → Nat → Nat) (pc : Nat) (C : CoV) (a : Int32)  : Ci Γ l yX11_isCell cX11_isCell 2 (some (.boolean)) 1 22 0 0 [.ref (t 0), .int a] [bTT Γ t s x V, bSt Γ s c y p pc, bCo Γ c k C] (fun (r : Int32) (u : Unit) => r = bI (stCell C a)) (fun (u : Unit) => [bTT Γ t s x V, bSt Γ s c y p pc, bCo Γ c k C]) := by
  refine Ci.of (Or.inr rfl) (by decide) (Nat.le_of_ble_eq_true rfl) ?_
  intro pp ee ss mm bb me cd AA QQ XX hnm hA hP hD fin ls hl
  obtain ⟨zx, zb, hml, hown, hts, hK⟩ := id XX
  have hS : va_S AA ss.heap ss.heap [] := va_S.rf
  have hl : lv_has ls 2 [(0, .ref (t 0)), (1, .int a)] := hl
  refine lv_iload_n zx zb dX11_isCell_0 rfl (lv_at hl 1 rfl) ?_
  refine lv_iconst (v := nI 0) zx zb dX11_isCell_1 (by decide) ?_
  refine lv_aload_n zx zb dX11_isCell_2 rfl (lv_at hl 0 rfl) ?_
  refine g_get (v := .ref (s 0)) XX hP 0 0 rfl rfl rfl iwX11 0 (by decide) fl_X11_30 rfl dX11_isCell_3 ?_
  refine g_get (v := .ref (c 0)) XX hP 1 0 rfl rfl rfl iwX8 0 (by decide) fl_X11_100 rfl dX11_isCell_6 ?_
  refine g_get (v := .int (nI (C.1))) XX hP 2 0 rfl rfl rfl iwX2 1 (by decide) fl_X11_230 rfl dX11_isCell_9 ?_
  refine lv_iconst (v := nI 1) zx zb dX11_isCell_12 (by decide) ?_
  refine lv_isub zx zb dX11_isCell_13 ?_
  refine g_top (y := (nI (C.1)) - 1) rfl ?_
  refine callR_Si (As := [.int a, .int (nI 0), .int ((nI (C.1)) - 1)]) (rest := []) XX cs_X11_75 (c_X11_within Γ l a 0 ((nI (C.1)) - 1) ) hP hD hS hA nil_mem nil_D rfl hl.1 rfl ⟨⟨by decide, by decide⟩, by decide, by decide⟩ (Nat.le_of_ble_eq_true rfl) dX11_isCell_14 (fun r_14 H locs hw hP hS => ?_)
  have hw := hw.symm
  subst hw
  exact fin _ _ (bI (wi a 0 ((nI (C.1)) - 1))) () 17 _ dX11_isCell_17 (fun _ => bI_narrow _) (rfl) hP hD hS

set_option maxHeartbeats 4000000 in
set_option maxRecDepth 100000 in
theorem c_X11_isTreaty (Γ : GG) (l : Launch) (t : Nat → Nat) (s : Nat → Nat) (x : Nat → Nat) (V : V3) (c : Nat → Nat) (k : Nat → Nat) (y : Nat → Nat) (p : Nat → Nat → Nat) (pc : Nat) (C : CoV) (a : Int32)  : Ci Γ l yX11_isTreaty cX11_isTreaty 2 (some (.boolean)) 1 22 0 0 [.ref (t 0), .int a] [bTT Γ t s x V, bSt Γ s c y p pc, bCo Γ c k C] (fun (r : Int32) (u : Unit) => r = bI (stTreaty C a)) (fun (u : Unit) => [bTT Γ t s x V, bSt Γ s c y p pc, bCo Γ c k C]) := by
  refine Ci.of (Or.inr rfl) (by decide) (Nat.le_of_ble_eq_true rfl) ?_
  intro pp ee ss mm bb me cd AA QQ XX hnm hA hP hD fin ls hl
  obtain ⟨zx, zb, hml, hown, hts, hK⟩ := id XX
  have hS : va_S AA ss.heap ss.heap [] := va_S.rf
  have hl : lv_has ls 2 [(0, .ref (t 0)), (1, .int a)] := hl
  refine lv_iload_n zx zb dX11_isTreaty_0 rfl (lv_at hl 1 rfl) ?_
  refine lv_iconst (v := nI 0) zx zb dX11_isTreaty_1 (by decide) ?_
  refine lv_aload_n zx zb dX11_isTreaty_2 rfl (lv_at hl 0 rfl) ?_
  refine g_get (v := .ref (s 0)) XX hP 0 0 rfl rfl rfl iwX11 0 (by decide) fl_X11_30 rfl dX11_isTreaty_3 ?_
  refine g_get (v := .ref (c 0)) XX hP 1 0 rfl rfl rfl iwX8 0 (by decide) fl_X11_100 rfl dX11_isTreaty_6 ?_
  refine g_get (v := .int (nI (C.2.2.2.2.2.2.1))) XX hP 2 0 rfl rfl rfl iwX2 8 (by decide) fl_X11_216 rfl dX11_isTreaty_9 ?_
  refine lv_iconst (v := nI 1) zx zb dX11_isTreaty_12 (by decide) ?_
  refine lv_isub zx zb dX11_isTreaty_13 ?_
  refine g_top (y := (nI (C.2.2.2.2.2.2.1)) - 1) rfl ?_
  refine callR_Si (As := [.int a, .int (nI 0), .int ((nI (C.2.2.2.2.2.2.1)) - 1)]) (rest := []) XX cs_X11_75 (c_X11_within Γ l a 0 ((nI (C.2.2.2.2.2.2.1)) - 1) ) hP hD hS hA nil_mem nil_D rfl hl.1 rfl ⟨⟨by decide, by decide⟩, by decide, by decide⟩ (Nat.le_of_ble_eq_true rfl) dX11_isTreaty_14 (fun r_14 H locs hw hP hS => ?_)
  have hw := hw.symm
  subst hw
  exact fin _ _ (bI (wi a 0 ((nI (C.2.2.2.2.2.2.1)) - 1))) () 17 _ dX11_isTreaty_17 (fun _ => bI_narrow _) (rfl) hP hD hS

set_option maxHeartbeats 4000000 in
set_option maxRecDepth 100000 in
theorem c_X11_isCells (Γ : GG) (l : Launch) (t : Nat → Nat) (s : Nat → Nat) (x : Nat → Nat) (V : V3) (c : Nat → Nat) (k : Nat → Nat) (y : Nat → Nat) (p : Nat → Nat → Nat) (pc : Nat) (C : CoV) (a : Int32) (hn : C.1 ≤ 8) : Ci Γ l yX11_isCells cX11_isCells 2 (some (.boolean)) 1 22 0 0 [.ref (t 0), .int a] [bTT Γ t s x V, bSt Γ s c y p pc, bCo Γ c k C] (fun (r : Int32) (u : Unit) => r = bI (wi a 0 (bit C.1 - 1))) (fun (u : Unit) => [bTT Γ t s x V, bSt Γ s c y p pc, bCo Γ c k C]) := by
  refine Ci.of (Or.inr rfl) (by decide) (Nat.le_of_ble_eq_true rfl) ?_
  intro pp ee ss mm bb me cd AA QQ XX hnm hA hP hD fin ls hl
  obtain ⟨zx, zb, hml, hown, hts, hK⟩ := id XX
  have hS : va_S AA ss.heap ss.heap [] := va_S.rf
  have hl : lv_has ls 2 [(0, .ref (t 0)), (1, .int a)] := hl
  refine lv_iload_n zx zb dX11_isCells_0 rfl (lv_at hl 1 rfl) ?_
  refine lv_iconst (v := nI 0) zx zb dX11_isCells_1 (by decide) ?_
  refine lv_iconst (v := nI 1) zx zb dX11_isCells_2 (by decide) ?_
  refine lv_aload_n zx zb dX11_isCells_3 rfl (lv_at hl 0 rfl) ?_
  refine g_get (v := .ref (s 0)) XX hP 0 0 rfl rfl rfl iwX11 0 (by decide) fl_X11_30 rfl dX11_isCells_4 ?_
  refine g_get (v := .ref (c 0)) XX hP 1 0 rfl rfl rfl iwX8 0 (by decide) fl_X11_100 rfl dX11_isCells_7 ?_
  refine g_get (v := .int (nI (C.1))) XX hP 2 0 rfl rfl rfl iwX2 1 (by decide) fl_X11_230 rfl dX11_isCells_10 ?_
  refine lv_ishl zx zb dX11_isCells_13 ?_
  refine g_top (y := bit C.1) (sh31l _ (by omega)) ?_
  refine lv_iconst (v := nI 1) zx zb dX11_isCells_14 (by decide) ?_
  refine lv_isub zx zb dX11_isCells_15 ?_
  refine g_top (y := (bit C.1) - 1) rfl ?_
  refine callR_Si (As := [.int a, .int (nI 0), .int ((bit C.1) - 1)]) (rest := []) XX cs_X11_75 (c_X11_within Γ l a 0 ((bit C.1) - 1) ) hP hD hS hA nil_mem nil_D rfl hl.1 rfl ⟨⟨by decide, by decide⟩, by decide, by decide⟩ (Nat.le_of_ble_eq_true rfl) dX11_isCells_16 (fun r_16 H locs hw hP hS => ?_)
  have hw := hw.symm
  subst hw
  exact fin _ _ (bI (wi a 0 ((bit C.1) - 1))) () 19 _ dX11_isCells_19 (fun _ => bI_narrow _) (rfl) hP hD hS

set_option maxHeartbeats 4000000 in
set_option maxRecDepth 100000 in
theorem c_X11_end (Γ : GG) (l : Launch) (t : Nat → Nat) (s : Nat → Nat) (x : Nat → Nat) (V : V3) (c : Nat → Nat) (k : Nat → Nat) (y : Nat → Nat) (p : Nat → Nat → Nat) (pc : Nat) (C : CoV) (tr : Nat → TrV) (Y : YrV) (a : Int32) (htc : C.2.2.2.2.2.2.1 ≤ 6) : Ci Γ l yX11_end cX11_end 3 (some (.int)) 2 43 0 0 [.ref (t 0), .int a] [bTT Γ t s x V, bSt Γ s c y p pc, bCo Γ c k C, bTs Γ c k tr, bYr Γ y Y] (fun (r : Int32) (u : V3 × Nat × (Nat → TrV)) => r = enR C tr Y a ∧ u = (toldV V (enR C tr Y a), toldP (enR C tr Y a) pc, enT C tr Y a)) (fun (u : V3 × Nat × (Nat → TrV)) => [bTT Γ t s x u.1, bSt Γ s c y p u.2.1, bCo Γ c k C, bTs Γ c k u.2.2, bYr Γ y Y]) := by
  refine Ci.of (Or.inl rfl) (by decide) (Nat.le_of_ble_eq_true rfl) ?_
  intro pp ee ss mm bb me cd AA QQ XX hnm hA hP hD fin ls hl
  obtain ⟨zx, zb, hml, hown, hts, hK⟩ := id XX
  have hS : va_S AA ss.heap ss.heap [] := va_S.rf
  have hl : lv_has ls 3 [(0, .ref (t 0)), (1, .int a)] := hl
  refine lv_aload_n zx zb dX11_end_0 rfl (lv_at hl 0 rfl) ?_
  refine lv_iload_n zx zb dX11_end_1 rfl (lv_at hl 1 rfl) ?_
  refine call_Vi (As := [.int a]) (rest := []) XX cv_X11_96 (c_X11_isTreaty Γ l t s x V c k y p pc C a ) hP hD hS hA [0, 1, 2] (by decide) rfl (fun _ => rfl) 0 0 rfl rfl rfl rfl hl.1 rfl ⟨⟨by decide, by decide⟩, by decide, by decide⟩ (Nat.le_of_ble_eq_true rfl) dX11_end_2 (fun r_2 u H locs hw hP hD hS => ?_)
  have hw := hw.symm
  subst hw
  have hP : bP Γ [bTT Γ t s x V, bSt Γ s c y p pc, bCo Γ c k C, bTs Γ c k tr, bYr Γ y Y] H := hP
  have hD : bD AA [bTT Γ t s x V, bSt Γ s c y p pc, bCo Γ c k C, bTs Γ c k tr, bYr Γ y Y] := hD
  refine lv_if_ne (tgt := 17) zx zb dX11_end_5 (by decide) (fun c_5 => ?_) (fun c_5 => ?_)
  · have c_5 : (stTreaty C a) = true := bI_ne c_5
    obtain ⟨j, hj, rfl⟩ := treaty_nat c_5 htc
    refine lv_aload_n zx zb dX11_end_17 rfl (lv_at hl 0 rfl) ?_
    refine g_get (v := .ref (s 0)) XX hP 0 0 rfl rfl rfl iwX11 0 (by decide) fl_X11_30 rfl dX11_end_18 ?_
    refine g_get (v := .ref (c 0)) XX hP 1 0 rfl rfl rfl iwX8 0 (by decide) fl_X11_100 rfl dX11_end_21 ?_
    refine g_get (v := .ref (c 5)) XX hP 2 0 rfl rfl rfl iwX2 7 (by decide) fl_X11_104 rfl dX11_end_24 ?_
    refine lv_iload_n zx zb dX11_end_27 rfl (lv_at hl 1 rfl) ?_
    refine g_aald (i := j) (v := c (6 + j)) XX hP 2 5 4 rfl rfl rfl (by omega) (by decide) rfl dX11_end_28 ?_
    refine lv_astore_n (lv' := [(2, .ref (c (6 + j))), (0, .ref (t 0)), (1, .int (nI j))]) zx zb dX11_end_29 rfl hl (by decide) rfl (fun ls hl => ?_)
    refine lv_aload_n zx zb dX11_end_30 rfl (lv_at hl 0 rfl) ?_
    refine lv_aload_n zx zb dX11_end_31 rfl (lv_at hl 1 rfl) ?_
    refine g_get (v := .ref (s 0)) XX hP 0 0 rfl rfl rfl iwX11 0 (by decide) fl_X11_30 rfl dX11_end_32 ?_
    refine g_get (v := .ref (y 0)) XX hP 1 0 rfl rfl rfl iwX8 1 (by decide) fl_X11_82 rfl dX11_end_35 ?_
    refine g_get (v := .int Y.1) XX hP 4 0 rfl rfl rfl iwX10 0 (by decide) fl_X11_110 rfl dX11_end_38 ?_
    refine callR_Vi (As := [.int Y.1]) (rest := []) XX cv_X11_113 (c_X9_runsIn Γ l (c (6 + j)) k (tr j) Y.1 ) hP hD hS hA (one_mem (bs := [bTT Γ t s x V, bSt Γ s c y p pc, bCo Γ c k C, bTs Γ c k tr, bYr Γ y Y]) (k := 3) (j := j) rfl (bTs_at Γ c k tr (by omega))) (one_D _) 3 j rfl (bTs_at Γ c k tr (by omega)) rfl rfl hl.1 rfl ⟨⟨by decide, by decide⟩, by decide, by decide⟩ (Nat.le_of_ble_eq_true rfl) dX11_end_41 (fun r_41 H locs hw hP hS => ?_)
    have hw := hw.symm
    subst hw
    refine lv_if_ne (tgt := 56) zx zb dX11_end_44 (by decide) (fun c_44 => ?_) (fun c_44 => ?_)
    · have c_44 : (trRuns (tr j) Y.1) = true := bI_ne c_44
      refine lv_aload_n zx zb dX11_end_56 rfl (lv_at hl 0 rfl) ?_
      refine lv_aload_n zx zb dX11_end_57 rfl (lv_at hl 1 rfl) ?_
      refine g_get (v := .ref (s 0)) XX hP 0 0 rfl rfl rfl iwX11 0 (by decide) fl_X11_30 rfl dX11_end_58 ?_
      refine g_get (v := .ref (y 0)) XX hP 1 0 rfl rfl rfl iwX8 1 (by decide) fl_X11_82 rfl dX11_end_61 ?_
      refine g_get (v := .int Y.1) XX hP 4 0 rfl rfl rfl iwX10 0 (by decide) fl_X11_110 rfl dX11_end_64 ?_
      refine g_put (v := .int Y.1) (blk' := bTs Γ c k (va_up tr j ((tr j).1, (tr j).2.1, (tr j).2.2.1, (tr j).2.2.2.1, (tr j).2.2.2.2.1, Y.1, (tr j).2.2.2.2.2.2.1, (tr j).2.2.2.2.2.2.2))) (bs' := [bTT Γ t s x V, bSt Γ s c y p pc, bCo Γ c k C, bTs Γ c k (va_up tr j ((tr j).1, (tr j).2.1, (tr j).2.2.1, (tr j).2.2.2.1, (tr j).2.2.2.2.1, Y.1, (tr j).2.2.2.2.2.2.1, (tr j).2.2.2.2.2.2.2)), bYr Γ y Y]) XX hP hD hS 3 j rfl (bTs_at Γ c k tr (by omega)) rfl iwX9 tyX9_ok nmX9 5 (by decide) fl_X11_118 rfl rfl rfl (Nat.le_of_ble_eq_true rfl) rfl (bTs_set (t := ((tr j).1, (tr j).2.1, (tr j).2.2.1, (tr j).2.2.2.1, (tr j).2.2.2.2.1, Y.1, (tr j).2.2.2.2.2.2.1, (tr j).2.2.2.2.2.2.2)) (by omega)) rfl dX11_end_67 (fun H locs hP hD hS => ?_)
      refine lv_aload_n zx zb dX11_end_70 rfl (lv_at hl 1 rfl) ?_
      refine lv_iconst (v := nI 1) zx zb dX11_end_71 (by decide) ?_
      refine call_Vi (As := [.int (nI 1)]) (rest := []) XX cv_X11_58 (c_X11_told Γ l t s x V c y p pc 1 ) hP hD hS hA [0, 1] (by decide) rfl (fun _ => rfl) 0 0 rfl rfl rfl rfl hl.1 rfl ⟨⟨by decide, by decide⟩, by decide, by decide⟩ (Nat.le_of_ble_eq_true rfl) dX11_end_72 (fun r_72 u H locs hw hP hD hS => ?_)
      obtain ⟨hw1, hw2⟩ := hw
      have hw1 := hw1.symm
      have hw2 := hw2.symm
      subst hw1
      subst hw2
      have hP : bP Γ [bTT Γ t s x ((toldV V 1, toldP 1 pc).1), bSt Γ s c y p ((toldV V 1, toldP 1 pc).2), bCo Γ c k C, bTs Γ c k (va_up tr j ((tr j).1, (tr j).2.1, (tr j).2.2.1, (tr j).2.2.2.1, (tr j).2.2.2.2.1, Y.1, (tr j).2.2.2.2.2.2.1, (tr j).2.2.2.2.2.2.2)), bYr Γ y Y] H := hP
      have hD : bD AA [bTT Γ t s x ((toldV V 1, toldP 1 pc).1), bSt Γ s c y p ((toldV V 1, toldP 1 pc).2), bCo Γ c k C, bTs Γ c k (va_up tr j ((tr j).1, (tr j).2.1, (tr j).2.2.1, (tr j).2.2.2.1, (tr j).2.2.2.2.1, Y.1, (tr j).2.2.2.2.2.2.1, (tr j).2.2.2.2.2.2.2)), bYr Γ y Y] := hD
      exact fin _ _ 1 ((toldV V 1, toldP 1 pc).1, (toldV V 1, toldP 1 pc).2, va_up tr j ((tr j).1, (tr j).2.1, (tr j).2.2.1, (tr j).2.2.2.1, (tr j).2.2.2.2.1, Y.1, (tr j).2.2.2.2.2.2.1, (tr j).2.2.2.2.2.2.2)) 75 _ dX11_end_75 (fun h => by cases h) ⟨(by simp only [enR, c_5, if_true]; rw [nI_clamp (by omega), c_44]; rfl), (by simp only [enR, enT, c_5, if_true]; rw [nI_clamp (by omega), c_44]; rfl)⟩ hP hD hS
    · have c_44 : (trRuns (tr j) Y.1) = false := bI_0.mp c_44
      refine lv_aload_n zx zb dX11_end_47 rfl (lv_at hl 1 rfl) ?_
      refine lv_bipush (v := (-3)) zx zb dX11_end_48 (by decide) ?_
      refine lv_bipush (v := (-3)) zx zb dX11_end_50 (by decide) ?_
      refine call_Vi (As := [.int (-3), .int (-3)]) (rest := []) XX cv_X11_79 (c_X11_refused Γ l t s x V (-3) (-3) ) hP hD hS hA [0] (by decide) rfl (fun _ => rfl) 0 0 rfl rfl rfl rfl hl.1 rfl ⟨⟨by decide, by decide⟩, by decide, by decide⟩ (Nat.le_of_ble_eq_true rfl) dX11_end_52 (fun r_52 u H locs hw hP hD hS => ?_)
      obtain ⟨hw1, hw2⟩ := hw
      have hw1 := hw1.symm
      have hw2 := hw2.symm
      subst hw1
      subst hw2
      have hP : bP Γ [bTT Γ t s x (ttRef V (-3)), bSt Γ s c y p pc, bCo Γ c k C, bTs Γ c k tr, bYr Γ y Y] H := hP
      have hD : bD AA [bTT Γ t s x (ttRef V (-3)), bSt Γ s c y p pc, bCo Γ c k C, bTs Γ c k tr, bYr Γ y Y] := hD
      exact fin _ _ (-3) ((ttRef V (-3)), pc, tr) 55 _ dX11_end_55 (fun h => by cases h) ⟨(by simp only [enR, c_5, c_44, if_true]; rw [nI_clamp (by omega), c_44]; rfl), (by simp only [enR, enT, c_5, if_true]; rw [nI_clamp (by omega), c_44]; rfl)⟩ hP hD hS
  · have c_5 : (stTreaty C a) = false := bI_0.mp c_5
    refine lv_aload_n zx zb dX11_end_8 rfl (lv_at hl 0 rfl) ?_
    refine lv_bipush (v := (-2)) zx zb dX11_end_9 (by decide) ?_
    refine lv_bipush (v := (-2)) zx zb dX11_end_11 (by decide) ?_
    refine call_Vi (As := [.int (-2), .int (-2)]) (rest := []) XX cv_X11_79 (c_X11_refused Γ l t s x V (-2) (-2) ) hP hD hS hA [0] (by decide) rfl (fun _ => rfl) 0 0 rfl rfl rfl rfl hl.1 rfl ⟨⟨by decide, by decide⟩, by decide, by decide⟩ (Nat.le_of_ble_eq_true rfl) dX11_end_13 (fun r_13 u H locs hw hP hD hS => ?_)
    obtain ⟨hw1, hw2⟩ := hw
    have hw1 := hw1.symm
    have hw2 := hw2.symm
    subst hw1
    subst hw2
    have hP : bP Γ [bTT Γ t s x (ttRef V (-2)), bSt Γ s c y p pc, bCo Γ c k C, bTs Γ c k tr, bYr Γ y Y] H := hP
    have hD : bD AA [bTT Γ t s x (ttRef V (-2)), bSt Γ s c y p pc, bCo Γ c k C, bTs Γ c k tr, bYr Γ y Y] := hD
    exact fin _ _ (-2) ((ttRef V (-2)), pc, tr) 16 _ dX11_end_16 (fun h => by cases h) ⟨(by simp [enR, c_5]), (by simp [enR, enT, c_5]; exact ⟨rfl, rfl⟩)⟩ hP hD hS

set_option maxHeartbeats 4000000 in
set_option maxRecDepth 100000 in
theorem c_X11_type (Γ : GG) (l : Launch) (t : Nat → Nat) (s : Nat → Nat) (x : Nat → Nat) (V : V3) (L : ScV) (a : Int32) (hl : L.1 ≤ 150) : Ci Γ l yX11_type cX11_type 2 (some (.int)) 1 22 0 0 [.ref (t 0), .int a] [bTT Γ t s x V, bSc Γ t L] (fun (r : Int32) (u : V3 × ScV) => r = tyR L a ∧ u = (toldV V (tyR L a), tyS L a)) (fun (u : V3 × ScV) => [bTT Γ t s x u.1, bSc Γ t u.2]) := by
  refine Ci.of (Or.inl rfl) (by decide) (Nat.le_of_ble_eq_true rfl) ?_
  intro pp ee ss mm bb me cd AA QQ XX hnm hA hP hD fin ls hl
  obtain ⟨zx, zb, hml, hown, hts, hK⟩ := id XX
  have hS : va_S AA ss.heap ss.heap [] := va_S.rf
  have hl : lv_has ls 2 [(0, .ref (t 0)), (1, .int a)] := hl
  refine lv_iload_n zx zb dX11_type_0 rfl (lv_at hl 1 rfl) ?_
  refine lv_iconst (v := nI 0) zx zb dX11_type_1 (by decide) ?_
  refine lv_bipush (v := nI 127) zx zb dX11_type_2 (by decide) ?_
  refine callR_Si (As := [.int a, .int (nI 0), .int (nI 127)]) (rest := []) XX cs_X11_75 (c_X11_within Γ l a 0 127 ) hP hD hS hA nil_mem nil_D rfl hl.1 rfl ⟨⟨by decide, by decide⟩, by decide, by decide⟩ (Nat.le_of_ble_eq_true rfl) dX11_type_4 (fun r_4 H locs hw hP hS => ?_)
  have hw := hw.symm
  subst hw
  refine lv_if_ne (tgt := 19) zx zb dX11_type_7 (by decide) (fun c_7 => ?_) (fun c_7 => ?_)
  · have c_7 : (wi a 0 127) = true := bI_ne c_7
    refine lv_aload_n zx zb dX11_type_19 rfl (lv_at hl 0 rfl) ?_
    refine g_get (v := .ref (t 2)) XX hP 0 0 rfl rfl rfl iwX11 3 (by decide) fl_X11_46 rfl dX11_type_20 ?_
    refine g_get (v := .int (nI (L.1))) XX hP 1 0 rfl rfl rfl iwX7 1 (by decide) fl_X11_121 rfl dX11_type_23 ?_
    refine lv_sipush (v := nI 150) zx zb dX11_type_26 (by decide) ?_
    refine lv_icmp_lt (tgt := 41) zx zb dX11_type_29 (by decide) (fun c_29 => ?_) (fun c_29 => ?_)
    · have c_29 : L.1 < 150 := (nI_ltI (a := L.1) (b := 150) (by omega) (by omega)).mp c_29
      refine lv_aload_n zx zb dX11_type_41 rfl (lv_at hl 0 rfl) ?_
      refine g_get (v := .ref (t 2)) XX hP 0 0 rfl rfl rfl iwX11 3 (by decide) fl_X11_46 rfl dX11_type_42 ?_
      refine g_get (v := .ref (t 4)) XX hP 1 0 rfl rfl rfl iwX7 0 (by decide) fl_X11_124 rfl dX11_type_45 ?_
      refine lv_aload_n zx zb dX11_type_48 rfl (lv_at hl 0 rfl) ?_
      refine g_get (v := .ref (t 2)) XX hP 0 0 rfl rfl rfl iwX11 3 (by decide) fl_X11_46 rfl dX11_type_49 ?_
      refine g_get (v := .int (nI (L.1))) XX hP 1 0 rfl rfl rfl iwX7 1 (by decide) fl_X11_121 rfl dX11_type_52 ?_
      refine lv_iload_n zx zb dX11_type_55 rfl (lv_at hl 1 rfl) ?_
      refine g_iastN (x := a) (i := L.1) (blk' := bSc Γ t (L.1, L.2.1, L.2.2.1, L.2.2.2.1, upd L.2.2.2.2.1 L.1 a, L.2.2.2.2.2.1, L.2.2.2.2.2.2)) (bs' := [bTT Γ t s x V, bSc Γ t (L.1, L.2.1, L.2.2.1, L.2.2.2.1, upd L.2.2.2.2.1 L.1 a, L.2.2.2.2.2.1, L.2.2.2.2.2.2)]) XX hP hD hS 1 1 rfl rfl (by omega) (by decide) rfl rfl dX11_type_56 (fun H locs hP hD hS => ?_)
      refine lv_aload_n zx zb dX11_type_57 rfl (lv_at hl 0 rfl) ?_
      refine g_get (v := .ref (t 2)) XX hP 0 0 rfl rfl rfl iwX11 3 (by decide) fl_X11_46 rfl dX11_type_58 ?_
      refine lv_dup zx zb dX11_type_61 rfl ?_
      refine g_get (v := .int (nI (L.1))) XX hP 1 0 rfl rfl rfl iwX7 1 (by decide) fl_X11_121 rfl dX11_type_62 ?_
      refine lv_iconst (v := nI 1) zx zb dX11_type_65 (by decide) ?_
      refine lv_iadd zx zb dX11_type_66 ?_
      refine g_top (y := nI (L.1 + 1)) (nI_add L.1 1) ?_
      refine g_put (v := .int (nI (L.1 + 1))) (blk' := bSc Γ t (L.1 + 1, L.2.1, L.2.2.1, L.2.2.2.1, upd L.2.2.2.2.1 L.1 a, L.2.2.2.2.2.1, L.2.2.2.2.2.2)) (bs' := [bTT Γ t s x V, bSc Γ t (L.1 + 1, L.2.1, L.2.2.1, L.2.2.2.1, upd L.2.2.2.2.1 L.1 a, L.2.2.2.2.2.1, L.2.2.2.2.2.2)]) XX hP hD hS 1 0 rfl rfl rfl iwX7 tyX7_ok nmX7 1 (by decide) fl_X11_121 rfl rfl rfl (Nat.le_of_ble_eq_true rfl) rfl rfl rfl dX11_type_67 (fun H locs hP hD hS => ?_)
      refine lv_aload_n zx zb dX11_type_70 rfl (lv_at hl 0 rfl) ?_
      refine g_get (v := .ref (t 2)) XX hP 0 0 rfl rfl rfl iwX11 3 (by decide) fl_X11_46 rfl dX11_type_71 ?_
      refine g_get (v := .int (nI (L.1 + 1))) XX hP 1 0 rfl rfl rfl iwX7 1 (by decide) fl_X11_121 rfl dX11_type_74 ?_
      exact fin _ _ (nI (L.1 + 1)) (V, (L.1 + 1, L.2.1, L.2.2.1, L.2.2.2.1, upd L.2.2.2.2.1 L.1 a, L.2.2.2.2.2.1, L.2.2.2.2.2.2)) 77 _ dX11_type_77 (fun h => by cases h) ⟨(by first | (simp only [tyR, c_7]; rfl) | (simp only [tyR, c_7, if_true]; first | rw [if_neg (by omega)] | rw [if_pos (by omega)])), (by simp only [tyR, tyS, c_7, if_true, true_and]; rw [if_pos (by omega), if_pos (by omega)]; unfold toldV; rw [if_neg (nI_pos (by omega))])⟩ hP hD hS
    · have c_29 : ¬ (L.1 < 150) := fun h => c_29 ((nI_ltI (a := L.1) (b := 150) (by omega) (by omega)).mpr h)
      refine lv_aload_n zx zb dX11_type_32 rfl (lv_at hl 0 rfl) ?_
      refine lv_bipush (v := (-4)) zx zb dX11_type_33 (by decide) ?_
      refine lv_bipush (v := (-4)) zx zb dX11_type_35 (by decide) ?_
      refine call_Vi (As := [.int (-4), .int (-4)]) (rest := []) XX cv_X11_79 (c_X11_refused Γ l t s x V (-4) (-4) ) hP hD hS hA [0] (by decide) rfl (fun _ => rfl) 0 0 rfl rfl rfl rfl hl.1 rfl ⟨⟨by decide, by decide⟩, by decide, by decide⟩ (Nat.le_of_ble_eq_true rfl) dX11_type_37 (fun r_37 u H locs hw hP hD hS => ?_)
      obtain ⟨hw1, hw2⟩ := hw
      have hw1 := hw1.symm
      have hw2 := hw2.symm
      subst hw1
      subst hw2
      have hP : bP Γ [bTT Γ t s x (ttRef V (-4)), bSc Γ t L] H := hP
      have hD : bD AA [bTT Γ t s x (ttRef V (-4)), bSc Γ t L] := hD
      exact fin _ _ (-4) ((ttRef V (-4)), L) 40 _ dX11_type_40 (fun h => by cases h) ⟨(by first | (simp only [tyR, c_7]; rfl) | (simp only [tyR, c_7, if_true]; first | rw [if_neg (by omega)] | rw [if_pos (by omega)])), (by simp only [tyR, tyS, c_7, if_true, true_and]; rw [if_neg (by omega), if_neg (by omega)]; rfl)⟩ hP hD hS
  · have c_7 : (wi a 0 127) = false := bI_0.mp c_7
    refine lv_aload_n zx zb dX11_type_10 rfl (lv_at hl 0 rfl) ?_
    refine lv_bipush (v := (-2)) zx zb dX11_type_11 (by decide) ?_
    refine lv_bipush (v := (-2)) zx zb dX11_type_13 (by decide) ?_
    refine call_Vi (As := [.int (-2), .int (-2)]) (rest := []) XX cv_X11_79 (c_X11_refused Γ l t s x V (-2) (-2) ) hP hD hS hA [0] (by decide) rfl (fun _ => rfl) 0 0 rfl rfl rfl rfl hl.1 rfl ⟨⟨by decide, by decide⟩, by decide, by decide⟩ (Nat.le_of_ble_eq_true rfl) dX11_type_15 (fun r_15 u H locs hw hP hD hS => ?_)
    obtain ⟨hw1, hw2⟩ := hw
    have hw1 := hw1.symm
    have hw2 := hw2.symm
    subst hw1
    subst hw2
    have hP : bP Γ [bTT Γ t s x (ttRef V (-2)), bSc Γ t L] H := hP
    have hD : bD AA [bTT Γ t s x (ttRef V (-2)), bSc Γ t L] := hD
    exact fin _ _ (-2) ((ttRef V (-2)), L) 18 _ dX11_type_18 (fun h => by cases h) ⟨(by first | (simp only [tyR, c_7]; rfl) | (simp only [tyR, c_7, if_true]; first | rw [if_neg (by omega)] | rw [if_pos (by omega)])), (by simp only [tyR, tyS, c_7]; rfl)⟩ hP hD hS

set_option maxHeartbeats 4000000 in
set_option maxRecDepth 100000 in
theorem c_X11_clear (Γ : GG) (l : Launch) (t : Nat → Nat) (s : Nat → Nat) (x : Nat → Nat) (V : V3) (L : ScV)  : Ci Γ l yX11_clear cX11_clear 2 (some (.int)) 0 0 0 0 [.ref (t 0)] [bTT Γ t s x V, bSc Γ t L] (fun (r : Int32) (u : ScV) => r = nI (L.1) ∧ u = (0, L.2)) (fun (u : ScV) => [bTT Γ t s x V, bSc Γ t u]) := by
  refine Ci.of (Or.inl rfl) (by decide) (Nat.le_of_ble_eq_true rfl) ?_
  intro pp ee ss mm bb me cd AA QQ XX hnm hA hP hD fin ls hl
  obtain ⟨zx, zb, hml, hown, hts, hK⟩ := id XX
  have hS : va_S AA ss.heap ss.heap [] := va_S.rf
  have hl : lv_has ls 2 [(0, .ref (t 0))] := hl
  refine lv_aload_n zx zb dX11_clear_0 rfl (lv_at hl 0 rfl) ?_
  refine g_get (v := .ref (t 2)) XX hP 0 0 rfl rfl rfl iwX11 3 (by decide) fl_X11_46 rfl dX11_clear_1 ?_
  refine g_get (v := .int (nI (L.1))) XX hP 1 0 rfl rfl rfl iwX7 1 (by decide) fl_X11_121 rfl dX11_clear_4 ?_
  refine lv_istore_n (lv' := [(1, .int (nI (L.1))), (0, .ref (t 0))]) zx zb dX11_clear_7 rfl hl (by decide) rfl (fun ls hl => ?_)
  refine lv_aload_n zx zb dX11_clear_8 rfl (lv_at hl 1 rfl) ?_
  refine g_get (v := .ref (t 2)) XX hP 0 0 rfl rfl rfl iwX11 3 (by decide) fl_X11_46 rfl dX11_clear_9 ?_
  refine lv_iconst (v := nI 0) zx zb dX11_clear_12 (by decide) ?_
  refine g_put (v := .int (nI 0)) (blk' := bSc Γ t (0, L.2.1, L.2.2.1, L.2.2.2.1, L.2.2.2.2.1, L.2.2.2.2.2.1, L.2.2.2.2.2.2)) (bs' := [bTT Γ t s x V, bSc Γ t (0, L.2.1, L.2.2.1, L.2.2.2.1, L.2.2.2.2.1, L.2.2.2.2.2.1, L.2.2.2.2.2.2)]) XX hP hD hS 1 0 rfl rfl rfl iwX7 tyX7_ok nmX7 1 (by decide) fl_X11_121 rfl rfl rfl (Nat.le_of_ble_eq_true rfl) rfl rfl rfl dX11_clear_13 (fun H locs hP hD hS => ?_)
  refine lv_iload_n zx zb dX11_clear_16 rfl (lv_at hl 0 rfl) ?_
  exact fin _ _ (nI (L.1)) (0, L.2.1, L.2.2.1, L.2.2.2.1, L.2.2.2.2.1, L.2.2.2.2.2.1, L.2.2.2.2.2.2) 17 _ dX11_clear_17 (fun h => by cases h) ⟨(rfl), (rfl)⟩ hP hD hS

set_option maxHeartbeats 4000000 in
set_option maxRecDepth 100000 in
theorem c_X11_storm (Γ : GG) (l : Launch) (t : Nat → Nat) (s : Nat → Nat) (x : Nat → Nat) (V : V3) (c : Nat → Nat) (k : Nat → Nat) (y : Nat → Nat) (p : Nat → Nat → Nat) (pc : Nat) (C : CoV) (a : Int32)  : Ci Γ l yX11_storm cX11_storm 2 (some (.int)) 3 63 0 0 [.ref (t 0), .int a] [bTT Γ t s x V, bSt Γ s c y p pc, bCo Γ c k C] (fun (r : Int32) (u : V3) => r = stR C a ∧ u = stV V (wi a 0 999)) (fun (u : V3) => [bTT Γ t s x u, bSt Γ s c y p pc, bCo Γ c k C]) := by
  refine Ci.of (Or.inl rfl) (by decide) (Nat.le_of_ble_eq_true rfl) ?_
  intro pp ee ss mm bb me cd AA QQ XX hnm hA hP hD fin ls hl
  obtain ⟨zx, zb, hml, hown, hts, hK⟩ := id XX
  have hS : va_S AA ss.heap ss.heap [] := va_S.rf
  have hl : lv_has ls 2 [(0, .ref (t 0)), (1, .int a)] := hl
  refine lv_iload_n zx zb dX11_storm_0 rfl (lv_at hl 1 rfl) ?_
  refine lv_iconst (v := nI 0) zx zb dX11_storm_1 (by decide) ?_
  refine lv_sipush (v := nI 999) zx zb dX11_storm_2 (by decide) ?_
  refine callR_Si (As := [.int a, .int (nI 0), .int (nI 999)]) (rest := []) XX cs_X11_75 (c_X11_within Γ l a 0 999 ) hP hD hS hA nil_mem nil_D rfl hl.1 rfl ⟨⟨by decide, by decide⟩, by decide, by decide⟩ (Nat.le_of_ble_eq_true rfl) dX11_storm_5 (fun r_5 H locs hw hP hS => ?_)
  have hw := hw.symm
  subst hw
  refine lv_if_eq (tgt := 25) zx zb dX11_storm_8 (by decide) (fun c_8 => ?_) (fun c_8 => ?_)
  · have c_8 : (wi a 0 999) = false := bI_0.mp c_8
    refine lv_aload_n zx zb dX11_storm_25 rfl (lv_at hl 0 rfl) ?_
    refine lv_bipush (v := (-2)) zx zb dX11_storm_26 (by decide) ?_
    refine lv_bipush (v := (-2)) zx zb dX11_storm_28 (by decide) ?_
    refine call_Vi (As := [.int (-2), .int (-2)]) (rest := []) XX cv_X11_79 (c_X11_refused Γ l t s x V (-2) (-2) ) hP hD hS hA [0] (by decide) rfl (fun _ => rfl) 0 0 rfl rfl rfl rfl hl.1 rfl ⟨⟨by decide, by decide⟩, by decide, by decide⟩ (Nat.le_of_ble_eq_true rfl) dX11_storm_30 (fun r_30 u H locs hw hP hD hS => ?_)
    obtain ⟨hw1, hw2⟩ := hw
    have hw1 := hw1.symm
    have hw2 := hw2.symm
    subst hw1
    subst hw2
    have hP : bP Γ [bTT Γ t s x (ttRef V (-2)), bSt Γ s c y p pc, bCo Γ c k C] H := hP
    have hD : bD AA [bTT Γ t s x (ttRef V (-2)), bSt Γ s c y p pc, bCo Γ c k C] := hD
    exact fin _ _ (-2) (ttRef V (-2)) 33 _ dX11_storm_33 (fun h => by cases h) ⟨(by simp [stR, c_8]), (by simp only [stV, c_8, ttRef_b]; rfl)⟩ hP hD hS
  · have c_8 : (wi a 0 999) = true := bI_ne c_8
    refine lv_aload_n zx zb dX11_storm_11 rfl (lv_at hl 0 rfl) ?_
    refine g_get (v := .ref (s 0)) XX hP 0 0 rfl rfl rfl iwX11 0 (by decide) fl_X11_30 rfl dX11_storm_12 ?_
    refine g_get (v := .ref (c 0)) XX hP 1 0 rfl rfl rfl iwX8 0 (by decide) fl_X11_100 rfl dX11_storm_15 ?_
    refine lv_iload_n zx zb dX11_storm_18 rfl (lv_at hl 1 rfl) ?_
    refine call_Vi (As := [.int a]) (rest := []) XX cv_X11_148 (c_X2_stormOf Γ l c k C a ) hP hD hS hA [2] (by decide) rfl (fun _ => rfl) 2 0 rfl rfl rfl rfl hl.1 rfl ⟨⟨by decide, by decide⟩, by decide, by decide⟩ (Nat.le_of_ble_eq_true rfl) dX11_storm_19 (fun r_19 u H locs hw hP hD hS => ?_)
    have hw := hw.symm
    subst hw
    have hP : bP Γ [bTT Γ t s x V, bSt Γ s c y p pc, bCo Γ c k C] H := hP
    have hD : bD AA [bTT Γ t s x V, bSt Γ s c y p pc, bCo Γ c k C] := hD
    refine lv_goto (tgt := 33) zx zb dX11_storm_22 (by decide) ?_
    exact fin _ _ (coStorm C a) V 33 _ dX11_storm_33 (fun h => by cases h) ⟨(by simp [stR, c_8]), (by simp only [stV, c_8, ttRef_b]; rfl)⟩ hP hD hS

set_option maxHeartbeats 4000000 in
set_option maxRecDepth 100000 in
theorem c_X11_guarded (Γ : GG) (l : Launch) (t : Nat → Nat) (s : Nat → Nat) (x : Nat → Nat) (V : V3) (c : Nat → Nat) (k : Nat → Nat) (y : Nat → Nat) (p : Nat → Nat → Nat) (pc : Nat) (C : CoV) (tr : Nat → TrV) (Y : YrV) (htc : C.2.2.2.2.2.2.1 ≤ 6) (hkd : ∀ i, i < 6 → (tr i).1 < 6) : Ci Γ l yX11_guarded cX11_guarded 1 (some (.int)) 3 68 0 0 [.ref (t 0)] [bTT Γ t s x V, bSt Γ s c y p pc, bCo Γ c k C, bTs Γ c k tr, bKd Γ k, bYr Γ y Y] (fun (r : Int32) (u : Unit) => r = ttGu C tr Y) (fun (u : Unit) => [bTT Γ t s x V, bSt Γ s c y p pc, bCo Γ c k C, bTs Γ c k tr, bKd Γ k, bYr Γ y Y]) := by
  refine Ci.of (Or.inl rfl) (by decide) (Nat.le_of_ble_eq_true rfl) ?_
  intro pp ee ss mm bb me cd AA QQ XX hnm hA hP hD fin ls hl
  obtain ⟨zx, zb, hml, hown, hts, hK⟩ := id XX
  have hS : va_S AA ss.heap ss.heap [] := va_S.rf
  have hl : lv_has ls 1 [(0, .ref (t 0))] := hl
  refine lv_aload_n zx zb dX11_guarded_0 rfl (lv_at hl 0 rfl) ?_
  refine g_get (v := .ref (s 0)) XX hP 0 0 rfl rfl rfl iwX11 0 (by decide) fl_X11_30 rfl dX11_guarded_1 ?_
  refine g_get (v := .ref (c 0)) XX hP 1 0 rfl rfl rfl iwX8 0 (by decide) fl_X11_100 rfl dX11_guarded_4 ?_
  refine lv_aload_n zx zb dX11_guarded_7 rfl (lv_at hl 0 rfl) ?_
  refine g_get (v := .ref (s 0)) XX hP 0 0 rfl rfl rfl iwX11 0 (by decide) fl_X11_30 rfl dX11_guarded_8 ?_
  refine g_get (v := .ref (y 0)) XX hP 1 0 rfl rfl rfl iwX8 1 (by decide) fl_X11_82 rfl dX11_guarded_11 ?_
  refine lv_aload_n zx zb dX11_guarded_14 rfl (lv_at hl 0 rfl) ?_
  refine g_get (v := .ref (s 0)) XX hP 0 0 rfl rfl rfl iwX11 0 (by decide) fl_X11_30 rfl dX11_guarded_15 ?_
  refine g_get (v := .ref (c 0)) XX hP 1 0 rfl rfl rfl iwX8 0 (by decide) fl_X11_100 rfl dX11_guarded_18 ?_
  refine lv_aload_n zx zb dX11_guarded_21 rfl (lv_at hl 0 rfl) ?_
  refine g_get (v := .ref (s 0)) XX hP 0 0 rfl rfl rfl iwX11 0 (by decide) fl_X11_30 rfl dX11_guarded_22 ?_
  refine g_get (v := .ref (y 0)) XX hP 1 0 rfl rfl rfl iwX8 1 (by decide) fl_X11_82 rfl dX11_guarded_25 ?_
  refine g_get (v := .int Y.1) XX hP 5 0 rfl rfl rfl iwX10 0 (by decide) fl_X11_110 rfl dX11_guarded_28 ?_
  refine call_Vi (As := [.int Y.1]) (rest := [.ref (y 0), .ref (c 0)]) XX cv_X11_148 (c_X2_stormOf Γ l c k C Y.1 ) hP hD hS hA [2] (by decide) rfl (fun _ => rfl) 2 0 rfl rfl rfl rfl hl.1 rfl ⟨⟨by decide, by decide⟩, by decide, by decide⟩ (Nat.le_of_ble_eq_true rfl) dX11_guarded_31 (fun r_31 u H locs hw hP hD hS => ?_)
  have hw := hw.symm
  subst hw
  have hP : bP Γ [bTT Γ t s x V, bSt Γ s c y p pc, bCo Γ c k C, bTs Γ c k tr, bKd Γ k, bYr Γ y Y] H := hP
  have hD : bD AA [bTT Γ t s x V, bSt Γ s c y p pc, bCo Γ c k C, bTs Γ c k tr, bKd Γ k, bYr Γ y Y] := hD
  refine call_Vi (As := [.ref (y 0), .int (coStorm C Y.1)]) (rest := []) XX cv_X11_200 (c_X2_guards Γ l c k C tr y Y (coStorm C Y.1) (htc) (hkd)) hP hD hS hA [2, 3, 4, 5] (by decide) rfl (fun _ => rfl) 2 0 rfl rfl rfl rfl hl.1 rfl ⟨⟨by decide, by decide⟩, by decide, by decide⟩ (Nat.le_of_ble_eq_true rfl) dX11_guarded_34 (fun r_34 u H locs hw hP hD hS => ?_)
  have hw := hw.symm
  subst hw
  have hP : bP Γ [bTT Γ t s x V, bSt Γ s c y p pc, bCo Γ c k C, bTs Γ c k tr, bKd Γ k, bYr Γ y Y] H := hP
  have hD : bD AA [bTT Γ t s x V, bSt Γ s c y p pc, bCo Γ c k C, bTs Γ c k tr, bKd Γ k, bYr Γ y Y] := hD
  exact fin _ _ (coGuards C tr Y (coStorm C Y.1) (coTc C)) () 37 _ dX11_guarded_37 (fun h => by cases h) (rfl) hP hD hS

set_option maxHeartbeats 4000000 in
set_option maxRecDepth 100000 in
theorem c_X11_wetWithout (Γ : GG) (l : Launch) (t : Nat → Nat) (s : Nat → Nat) (x : Nat → Nat) (V : V3) (c : Nat → Nat) (k : Nat → Nat) (y : Nat → Nat) (p : Nat → Nat → Nat) (pc : Nat) (C : CoV) (tr : Nat → TrV) (Y : YrV) (b : Int32) (hn : C.1 ≤ 8) (htc : C.2.2.2.2.2.2.1 ≤ 6) (hkd : ∀ i, i < 6 → (tr i).1 < 6) : Ci Γ l yX11_wetWithout cX11_wetWithout 3 (some (.int)) 3 68 0 0 [.ref (t 0), .int b] [bTT Γ t s x V, bSt Γ s c y p pc, bCo Γ c k C, bTs Γ c k tr, bKd Γ k, bYr Γ y Y] (fun (r : Int32) (u : Unit) => r = ttWet C tr Y b) (fun (u : Unit) => [bTT Γ t s x V, bSt Γ s c y p pc, bCo Γ c k C, bTs Γ c k tr, bKd Γ k, bYr Γ y Y]) := by
  refine Ci.of (Or.inl rfl) (by decide) (Nat.le_of_ble_eq_true rfl) ?_
  intro pp ee ss mm bb me cd AA QQ XX hnm hA hP hD fin ls hl
  obtain ⟨zx, zb, hml, hown, hts, hK⟩ := id XX
  have hS : va_S AA ss.heap ss.heap [] := va_S.rf
  have hl : lv_has ls 3 [(0, .ref (t 0)), (1, .int b)] := hl
  refine lv_aload_n zx zb dX11_wetWithout_0 rfl (lv_at hl 0 rfl) ?_
  refine g_get (v := .ref (s 0)) XX hP 0 0 rfl rfl rfl iwX11 0 (by decide) fl_X11_30 rfl dX11_wetWithout_1 ?_
  refine g_get (v := .ref (c 0)) XX hP 1 0 rfl rfl rfl iwX8 0 (by decide) fl_X11_100 rfl dX11_wetWithout_4 ?_
  refine lv_aload_n zx zb dX11_wetWithout_7 rfl (lv_at hl 0 rfl) ?_
  refine g_get (v := .ref (s 0)) XX hP 0 0 rfl rfl rfl iwX11 0 (by decide) fl_X11_30 rfl dX11_wetWithout_8 ?_
  refine g_get (v := .ref (y 0)) XX hP 1 0 rfl rfl rfl iwX8 1 (by decide) fl_X11_82 rfl dX11_wetWithout_11 ?_
  refine g_get (v := .int Y.1) XX hP 5 0 rfl rfl rfl iwX10 0 (by decide) fl_X11_110 rfl dX11_wetWithout_14 ?_
  refine call_Vi (As := [.int Y.1]) (rest := []) XX cv_X11_148 (c_X2_stormOf Γ l c k C Y.1 ) hP hD hS hA [2] (by decide) rfl (fun _ => rfl) 2 0 rfl rfl rfl rfl hl.1 rfl ⟨⟨by decide, by decide⟩, by decide, by decide⟩ (Nat.le_of_ble_eq_true rfl) dX11_wetWithout_17 (fun r_17 u H locs hw hP hD hS => ?_)
  have hw := hw.symm
  subst hw
  have hP : bP Γ [bTT Γ t s x V, bSt Γ s c y p pc, bCo Γ c k C, bTs Γ c k tr, bKd Γ k, bYr Γ y Y] H := hP
  have hD : bD AA [bTT Γ t s x V, bSt Γ s c y p pc, bCo Γ c k C, bTs Γ c k tr, bKd Γ k, bYr Γ y Y] := hD
  refine lv_istore_n (lv' := [(2, .int (coStorm C Y.1)), (0, .ref (t 0)), (1, .int b)]) zx zb dX11_wetWithout_20 rfl hl (by decide) rfl (fun ls hl => ?_)
  refine lv_aload_n zx zb dX11_wetWithout_21 rfl (lv_at hl 1 rfl) ?_
  refine g_get (v := .ref (s 0)) XX hP 0 0 rfl rfl rfl iwX11 0 (by decide) fl_X11_30 rfl dX11_wetWithout_22 ?_
  refine g_get (v := .ref (c 0)) XX hP 1 0 rfl rfl rfl iwX8 0 (by decide) fl_X11_100 rfl dX11_wetWithout_25 ?_
  refine lv_iload_n zx zb dX11_wetWithout_28 rfl (lv_at hl 0 rfl) ?_
  refine lv_aload_n zx zb dX11_wetWithout_29 rfl (lv_at hl 1 rfl) ?_
  refine g_get (v := .ref (s 0)) XX hP 0 0 rfl rfl rfl iwX11 0 (by decide) fl_X11_30 rfl dX11_wetWithout_30 ?_
  refine g_get (v := .ref (c 0)) XX hP 1 0 rfl rfl rfl iwX8 0 (by decide) fl_X11_100 rfl dX11_wetWithout_33 ?_
  refine lv_aload_n zx zb dX11_wetWithout_36 rfl (lv_at hl 1 rfl) ?_
  refine g_get (v := .ref (s 0)) XX hP 0 0 rfl rfl rfl iwX11 0 (by decide) fl_X11_30 rfl dX11_wetWithout_37 ?_
  refine g_get (v := .ref (y 0)) XX hP 1 0 rfl rfl rfl iwX8 1 (by decide) fl_X11_82 rfl dX11_wetWithout_40 ?_
  refine lv_iload_n zx zb dX11_wetWithout_43 rfl (lv_at hl 0 rfl) ?_
  refine call_Vi (As := [.ref (y 0), .int (coStorm C Y.1)]) (rest := [.int (coStorm C Y.1), .ref (c 0)]) XX cv_X11_200 (c_X2_guards Γ l c k C tr y Y (coStorm C Y.1) (htc) (hkd)) hP hD hS hA [2, 3, 4, 5] (by decide) rfl (fun _ => rfl) 2 0 rfl rfl rfl rfl hl.1 rfl ⟨⟨by decide, by decide⟩, by decide, by decide⟩ (Nat.le_of_ble_eq_true rfl) dX11_wetWithout_44 (fun r_44 u H locs hw hP hD hS => ?_)
  have hw := hw.symm
  subst hw
  have hP : bP Γ [bTT Γ t s x V, bSt Γ s c y p pc, bCo Γ c k C, bTs Γ c k tr, bKd Γ k, bYr Γ y Y] H := hP
  have hD : bD AA [bTT Γ t s x V, bSt Γ s c y p pc, bCo Γ c k C, bTs Γ c k tr, bKd Γ k, bYr Γ y Y] := hD
  refine lv_aload_n zx zb dX11_wetWithout_47 rfl (lv_at hl 1 rfl) ?_
  refine g_get (v := .ref (s 0)) XX hP 0 0 rfl rfl rfl iwX11 0 (by decide) fl_X11_30 rfl dX11_wetWithout_48 ?_
  refine g_get (v := .ref (y 0)) XX hP 1 0 rfl rfl rfl iwX8 1 (by decide) fl_X11_82 rfl dX11_wetWithout_51 ?_
  refine g_get (v := .ref (y 1)) XX hP 5 0 rfl rfl rfl iwX10 3 (by decide) fl_X11_171 rfl dX11_wetWithout_54 ?_
  refine lv_iload_n zx zb dX11_wetWithout_57 rfl (lv_at hl 2 rfl) ?_
  refine call_Vi (As := [.int (coStorm C Y.1), .int (coGuards C tr Y (coStorm C Y.1) (coTc C)), .ref (y 1), .int b]) (rest := []) XX cv_X11_338 (c_X2_water Γ l c k C y Y (coStorm C Y.1) (coGuards C tr Y (coStorm C Y.1) (coTc C)) b (hn)) hP hD hS hA [2, 5] (by decide) rfl (fun _ => rfl) 2 0 rfl rfl rfl rfl hl.1 rfl ⟨⟨by decide, by decide⟩, by decide, by decide⟩ (Nat.le_of_ble_eq_true rfl) dX11_wetWithout_58 (fun r_58 u H locs hw hP hD hS => ?_)
  have hw := hw.symm
  subst hw
  have hP : bP Γ [bTT Γ t s x V, bSt Γ s c y p pc, bCo Γ c k C, bTs Γ c k tr, bKd Γ k, bYr Γ y Y] H := hP
  have hD : bD AA [bTT Γ t s x V, bSt Γ s c y p pc, bCo Γ c k C, bTs Γ c k tr, bKd Γ k, bYr Γ y Y] := hD
  exact fin _ _ (coWater C Y.2.2.2.1 (coStorm C Y.1) (coGuards C tr Y (coStorm C Y.1) (coTc C)) b) () 61 _ dX11_wetWithout_61 (fun h => by cases h) (rfl) hP hD hS

set_option maxHeartbeats 4000000 in
set_option maxRecDepth 100000 in
theorem c_X11_wet (Γ : GG) (l : Launch) (t : Nat → Nat) (s : Nat → Nat) (x : Nat → Nat) (V : V3) (c : Nat → Nat) (k : Nat → Nat) (y : Nat → Nat) (p : Nat → Nat → Nat) (pc : Nat) (C : CoV) (tr : Nat → TrV) (Y : YrV) (hn : C.1 ≤ 8) (htc : C.2.2.2.2.2.2.1 ≤ 6) (hkd : ∀ i, i < 6 → (tr i).1 < 6) : Ci Γ l yX11_wet cX11_wet 1 (some (.int)) 4 90 0 0 [.ref (t 0)] [bTT Γ t s x V, bSt Γ s c y p pc, bCo Γ c k C, bTs Γ c k tr, bKd Γ k, bYr Γ y Y] (fun (r : Int32) (u : Unit) => r = ttWet C tr Y 0) (fun (u : Unit) => [bTT Γ t s x V, bSt Γ s c y p pc, bCo Γ c k C, bTs Γ c k tr, bKd Γ k, bYr Γ y Y]) := by
  refine Ci.of (Or.inl rfl) (by decide) (Nat.le_of_ble_eq_true rfl) ?_
  intro pp ee ss mm bb me cd AA QQ XX hnm hA hP hD fin ls hl
  obtain ⟨zx, zb, hml, hown, hts, hK⟩ := id XX
  have hS : va_S AA ss.heap ss.heap [] := va_S.rf
  have hl : lv_has ls 1 [(0, .ref (t 0))] := hl
  refine lv_aload_n zx zb dX11_wet_0 rfl (lv_at hl 0 rfl) ?_
  refine lv_iconst (v := nI 0) zx zb dX11_wet_1 (by decide) ?_
  refine call_Vi (As := [.int (nI 0)]) (rest := []) XX cv_X11_203 (c_X11_wetWithout Γ l t s x V c k y p pc C tr Y 0 (hn) (htc) (hkd)) hP hD hS hA [0, 1, 2, 3, 4, 5] (by decide) rfl (fun _ => rfl) 0 0 rfl rfl rfl rfl hl.1 rfl ⟨⟨by decide, by decide⟩, by decide, by decide⟩ (Nat.le_of_ble_eq_true rfl) dX11_wet_2 (fun r_2 u H locs hw hP hD hS => ?_)
  have hw := hw.symm
  subst hw
  have hP : bP Γ [bTT Γ t s x V, bSt Γ s c y p pc, bCo Γ c k C, bTs Γ c k tr, bKd Γ k, bYr Γ y Y] H := hP
  have hD : bD AA [bTT Γ t s x V, bSt Γ s c y p pc, bCo Γ c k C, bTs Γ c k tr, bKd Γ k, bYr Γ y Y] := hD
  exact fin _ _ (ttWet C tr Y 0) () 5 _ dX11_wet_5 (fun h => by cases h) (rfl) hP hD hS
