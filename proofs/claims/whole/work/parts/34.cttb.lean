theorem co_X11_193_X0 : CWO RX11 193 RX0 "TideTreaty$Plain" yX6_holds yX6_holds cX6_holds 2 (some (.int)) 1 := ⟨cd_X6_holds, ml_X11_193, sm_X6_X6_holds, im_X6_holds, se_X0_X6_holds_X6_holds, im_X6_holds, in_X6, ⟨_, _, _, cd_X6_holds⟩, by decide +kernel⟩
theorem co_X11_193_X1 : CWO RX11 193 RX1 "TideTreaty$Plain" yX6_holds yX1_holds cX1_holds 2 (some (.int)) 1 := ⟨cd_X1_holds, ml_X11_193, sm_X6_X6_holds, im_X6_holds, se_X1_X6_holds_X1_holds, im_X1_holds, in_X1, ⟨_, _, _, cd_X6_holds⟩, by decide +kernel⟩
theorem co_X11_193_X3 : CWO RX11 193 RX3 "TideTreaty$Plain" yX6_holds yX3_holds cX3_holds 2 (some (.int)) 1 := ⟨cd_X3_holds, ml_X11_193, sm_X6_X6_holds, im_X6_holds, se_X3_X6_holds_X3_holds, im_X3_holds, in_X3, ⟨_, _, _, cd_X6_holds⟩, by decide +kernel⟩
theorem co_X11_193_X4 : CWO RX11 193 RX4 "TideTreaty$Plain" yX6_holds yX5_holds cX5_holds 2 (some (.int)) 1 := ⟨cd_X5_holds, ml_X11_193, sm_X6_X6_holds, im_X6_holds, se_X4_X6_holds_X5_holds, im_X5_holds, in_X5, ⟨_, _, _, cd_X6_holds⟩, by decide +kernel⟩
theorem co_X11_193_X5 : CWO RX11 193 RX5 "TideTreaty$Plain" yX6_holds yX5_holds cX5_holds 2 (some (.int)) 1 := ⟨cd_X5_holds, ml_X11_193, sm_X6_X6_holds, im_X6_holds, se_X5_X6_holds_X5_holds, im_X5_holds, in_X5, ⟨_, _, _, cd_X6_holds⟩, by decide +kernel⟩
theorem co_X11_193_X6 : CWO RX11 193 RX6 "TideTreaty$Plain" yX6_holds yX6_holds cX6_holds 2 (some (.int)) 1 := ⟨cd_X6_holds, ml_X11_193, sm_X6_X6_holds, im_X6_holds, se_X6_X6_holds_X6_holds, im_X6_holds, in_X6, ⟨_, _, _, cd_X6_holds⟩, by decide +kernel⟩
theorem cv_X11_142 : CWV RX11 142 RX10 yX10_copyOf cX10_copyOf 2 none 1 := ⟨cd_X10_copyOf, im_X10_copyOf, se_X10_X10_copyOf_X10_copyOf, in_X10, ml_X11_142, by decide +kernel⟩
theorem cv_X11_151 : CWV RX11 151 RX2 yX2_runYear cX2_runYear 6 (some (.int)) 2 := ⟨cd_X2_runYear, im_X2_runYear, se_X2_X2_runYear_X2_runYear, in_X2, ml_X11_151, by decide +kernel⟩
theorem cv_X11_159 : CWV RX11 159 RX11 yX11_isCell cX11_isCell 2 (some (.boolean)) 1 := ⟨cd_X11_isCell, im_X11_isCell, se_X11_X11_isCell_X11_isCell, in_X11, ml_X11_159, by decide +kernel⟩
theorem cv_X11_177 : CWV RX11 177 RX10 yX10_isLost cX10_isLost 2 (some (.boolean)) 1 := ⟨cd_X10_isLost, im_X10_isLost, se_X10_X10_isLost_X10_isLost, in_X10, ml_X11_177, by decide +kernel⟩
theorem cv_X11_190 : CWV RX11 190 RX2 yX2_isSpring cX2_isSpring 2 (some (.boolean)) 1 := ⟨cd_X2_isSpring, im_X2_isSpring, se_X2_X2_isSpring_X2_isSpring, in_X2, ml_X11_190, by decide +kernel⟩
theorem cv_X11_197 : CWV RX11 197 RX10 yX10_isBreached cX10_isBreached 2 (some (.boolean)) 1 := ⟨cd_X10_isBreached, im_X10_isBreached, se_X10_X10_isBreached_X10_isBreached, in_X10, ml_X11_197, by decide +kernel⟩
theorem cv_X11_206 : CWV RX11 206 RX11 yX11_runAhead cX11_runAhead 2 (some (.int)) 1 := ⟨cd_X11_runAhead, im_X11_runAhead, se_X11_X11_runAhead_X11_runAhead, in_X11, ml_X11_206, by decide +kernel⟩
theorem cv_X11_210 : CWV RX11 210 RX11 yX11_outcome cX11_outcome 3 (some (.int)) 2 := ⟨cd_X11_outcome, im_X11_outcome, se_X11_X11_outcome_X11_outcome, in_X11, ml_X11_210, by decide +kernel⟩
theorem cv_X11_213 : CWV RX11 213 RX10 yX10_lost cX10_lost 3 (some (.int)) 0 := ⟨cd_X10_lost, im_X10_lost, se_X10_X10_lost_X10_lost, in_X10, ml_X11_213, by decide +kernel⟩
theorem cv_X11_255 : CWV RX11 255 RX2 yX2_addTide cX2_addTide 4 (some (.int)) 3 := ⟨cd_X2_addTide, im_X2_addTide, se_X2_X2_addTide_X2_addTide, in_X2, ml_X11_255, by decide +kernel⟩
theorem cv_X11_287 : CWV RX11 287 RX8 yX8_dropTreaties cX8_dropTreaties 2 (some (.int)) 0 := ⟨cd_X8_dropTreaties, im_X8_dropTreaties, se_X8_X8_dropTreaties_X8_dropTreaties, in_X8, ml_X11_287, by decide +kernel⟩
theorem cv_X11_290 : CWV RX11 290 RX2 yX2_dropTides cX2_dropTides 2 (some (.int)) 0 := ⟨cd_X2_dropTides, im_X2_dropTides, se_X2_X2_dropTides_X2_dropTides, in_X2, ml_X11_290, by decide +kernel⟩
theorem cv_X11_309 : CWV RX11 309 RX11 yX11_amount cX11_amount 2 (some (.int)) 1 := ⟨cd_X11_amount, im_X11_amount, se_X11_X11_amount_X11_amount, in_X11, ml_X11_309, by decide +kernel⟩
theorem cv_X11_342 : CWV RX11 342 RX2 yX2_worthOfAll cX2_worthOfAll 4 (some (.int)) 1 := ⟨cd_X2_worthOfAll, im_X2_worthOfAll, se_X2_X2_worthOfAll_X2_worthOfAll, in_X2, ml_X11_342, by decide +kernel⟩
set_option maxHeartbeats 4000000 in
set_option maxRecDepth 100000 in
theorem c_X11_of (Γ : GG) (l : Launch) (t : Nat → Nat) (s : Nat → Nat) (x : Nat → Nat) (V : V3) (c : Nat → Nat) (k : Nat → Nat) (y : Nat → Nat) (p : Nat → Nat → Nat) (pc : Nat) (C : CoV) (Y : YrV) (a : Int32) (w : Int32) (hn : C.1 ≤ 8) : Ci Γ l yX11_of cX11_of 3 (some (.int)) 2 43 0 0 [.ref (t 0), .int a, .int w] [bTT Γ t s x V, bSt Γ s c y p pc, bCo Γ c k C, bYr Γ y Y] (fun (r : Int32) (u : V3) => r = ofR C Y a w ∧ u = stV V (ofOk C a w)) (fun (u : V3) => [bTT Γ t s x u, bSt Γ s c y p pc, bCo Γ c k C, bYr Γ y Y]) := by
  refine Ci.of (Or.inl rfl) (by decide) (Nat.le_of_ble_eq_true rfl) ?_
  intro pp ee ss mm bb me cd AA QQ XX hnm hA hP hD fin ls hl
  obtain ⟨zx, zb, hml, hown, hts, hK⟩ := id XX
  have hS : va_S AA ss.heap ss.heap [] := va_S.rf
  have hl : lv_has ls 3 [(0, .ref (t 0)), (1, .int a), (2, .int w)] := hl
  refine lv_aload_n zx zb dX11_of_0 rfl (lv_at hl 0 rfl) ?_
  refine lv_iload_n zx zb dX11_of_1 rfl (lv_at hl 1 rfl) ?_
  refine call_Vi (As := [.int a]) (rest := []) XX cv_X11_159 (c_X11_isCell Γ l t s x V c k y p pc C a ) hP hD hS hA [0, 1, 2] (by decide) rfl (fun _ => rfl) 0 0 rfl rfl rfl rfl hl.1 rfl ⟨⟨by decide, by decide⟩, by decide, by decide⟩ (Nat.le_of_ble_eq_true rfl) dX11_of_2 (fun r_2 u H locs hw hP hD hS => ?_)
  have hw := hw.symm
  subst hw
  have hP : bP Γ [bTT Γ t s x V, bSt Γ s c y p pc, bCo Γ c k C, bYr Γ y Y] H := hP
  have hD : bD AA [bTT Γ t s x V, bSt Γ s c y p pc, bCo Γ c k C, bYr Γ y Y] := hD
  refine lv_if_ne (tgt := 17) zx zb dX11_of_5 (by decide) (fun c_5 => ?_) (fun c_5 => ?_)
  · have c_5 : (stCell C a) = true := bI_ne c_5
    obtain ⟨j, hj, rfl⟩ := cell_nat c_5 hn
    refine lv_iload_n zx zb dX11_of_17 rfl (lv_at hl 2 rfl) ?_
    by_cases e18_0 : w = (0 : Int32)
    · subst e18_0
      refine lv_tableIn (off := 38) (tgt := 56) zx zb dX11_of_18 (by decide) (by decide) rfl (by decide) ?_
      refine lv_aload_n zx zb dX11_of_56 rfl (lv_at hl 0 rfl) ?_
      refine g_get (v := .ref (s 0)) XX hP 0 0 rfl rfl rfl iwX11 0 (by decide) fl_X11_30 rfl dX11_of_57 ?_
      refine g_get (v := .ref (c 0)) XX hP 1 0 rfl rfl rfl iwX8 0 (by decide) fl_X11_100 rfl dX11_of_60 ?_
      refine g_get (v := .ref (c 1)) XX hP 2 0 rfl rfl rfl iwX2 3 (by decide) fl_X11_162 rfl dX11_of_63 ?_
      refine lv_iload_n zx zb dX11_of_66 rfl (lv_at hl 1 rfl) ?_
      refine g_ialdN (i := j) XX hP 2 1 rfl rfl (by omega) (by decide) dX11_of_67 ?_
      exact fin _ _ (C.2.2.1 j) V 68 _ dX11_of_68 (fun h => by cases h) ⟨(by unfold ofR ofOk; rw [c_5, nI_clamp (by omega)]; simp [ofV, wi]), (by unfold ofOk; rw [c_5]; rfl)⟩ hP hD hS
    by_cases e18_1 : w = (1 : Int32)
    · subst e18_1
      refine lv_tableIn (off := 51) (tgt := 69) zx zb dX11_of_18 (by decide) (by decide) rfl (by decide) ?_
      refine lv_aload_n zx zb dX11_of_69 rfl (lv_at hl 0 rfl) ?_
      refine g_get (v := .ref (s 0)) XX hP 0 0 rfl rfl rfl iwX11 0 (by decide) fl_X11_30 rfl dX11_of_70 ?_
      refine g_get (v := .ref (c 0)) XX hP 1 0 rfl rfl rfl iwX8 0 (by decide) fl_X11_100 rfl dX11_of_73 ?_
      refine g_get (v := .ref (c 2)) XX hP 2 0 rfl rfl rfl iwX2 4 (by decide) fl_X11_165 rfl dX11_of_76 ?_
      refine lv_iload_n zx zb dX11_of_79 rfl (lv_at hl 1 rfl) ?_
      refine g_ialdN (i := j) XX hP 2 2 rfl rfl (by omega) (by decide) dX11_of_80 ?_
      exact fin _ _ (C.2.2.2.1 j) V 81 _ dX11_of_81 (fun h => by cases h) ⟨(by unfold ofR ofOk; rw [c_5, nI_clamp (by omega)]; simp [ofV, wi]), (by unfold ofOk; rw [c_5]; rfl)⟩ hP hD hS
    by_cases e18_2 : w = (2 : Int32)
    · subst e18_2
      refine lv_tableIn (off := 64) (tgt := 82) zx zb dX11_of_18 (by decide) (by decide) rfl (by decide) ?_
      refine lv_aload_n zx zb dX11_of_82 rfl (lv_at hl 0 rfl) ?_
      refine g_get (v := .ref (s 0)) XX hP 0 0 rfl rfl rfl iwX11 0 (by decide) fl_X11_30 rfl dX11_of_83 ?_
      refine g_get (v := .ref (c 0)) XX hP 1 0 rfl rfl rfl iwX8 0 (by decide) fl_X11_100 rfl dX11_of_86 ?_
      refine g_get (v := .ref (c 3)) XX hP 2 0 rfl rfl rfl iwX2 5 (by decide) fl_X11_168 rfl dX11_of_89 ?_
      refine lv_iload_n zx zb dX11_of_92 rfl (lv_at hl 1 rfl) ?_
      refine g_ialdN (i := j) XX hP 2 3 rfl rfl (by omega) (by decide) dX11_of_93 ?_
      exact fin _ _ (C.2.2.2.2.1 j) V 94 _ dX11_of_94 (fun h => by cases h) ⟨(by unfold ofR ofOk; rw [c_5, nI_clamp (by omega)]; simp [ofV, wi]), (by unfold ofOk; rw [c_5]; rfl)⟩ hP hD hS
    by_cases e18_3 : w = (3 : Int32)
    · subst e18_3
      refine lv_tableIn (off := 77) (tgt := 95) zx zb dX11_of_18 (by decide) (by decide) rfl (by decide) ?_
      refine lv_aload_n zx zb dX11_of_95 rfl (lv_at hl 0 rfl) ?_
      refine g_get (v := .ref (s 0)) XX hP 0 0 rfl rfl rfl iwX11 0 (by decide) fl_X11_30 rfl dX11_of_96 ?_
      refine g_get (v := .ref (y 0)) XX hP 1 0 rfl rfl rfl iwX8 1 (by decide) fl_X11_82 rfl dX11_of_99 ?_
      refine g_get (v := .ref (y 1)) XX hP 3 0 rfl rfl rfl iwX10 3 (by decide) fl_X11_171 rfl dX11_of_102 ?_
      refine lv_iload_n zx zb dX11_of_105 rfl (lv_at hl 1 rfl) ?_
      refine g_ialdN (i := j) XX hP 3 1 rfl rfl (by omega) (by decide) dX11_of_106 ?_
      exact fin _ _ (Y.2.2.2.1 j) V 107 _ dX11_of_107 (fun h => by cases h) ⟨(by unfold ofR ofOk; rw [c_5, nI_clamp (by omega)]; simp [ofV, wi]), (by unfold ofOk; rw [c_5]; rfl)⟩ hP hD hS
    by_cases e18_4 : w = (4 : Int32)
    · subst e18_4
      refine lv_tableIn (off := 90) (tgt := 108) zx zb dX11_of_18 (by decide) (by decide) rfl (by decide) ?_
      refine lv_aload_n zx zb dX11_of_108 rfl (lv_at hl 0 rfl) ?_
      refine g_get (v := .ref (s 0)) XX hP 0 0 rfl rfl rfl iwX11 0 (by decide) fl_X11_30 rfl dX11_of_109 ?_
      refine g_get (v := .ref (y 0)) XX hP 1 0 rfl rfl rfl iwX8 1 (by decide) fl_X11_82 rfl dX11_of_112 ?_
      refine g_get (v := .ref (y 2)) XX hP 3 0 rfl rfl rfl iwX10 4 (by decide) fl_X11_174 rfl dX11_of_115 ?_
      refine lv_iload_n zx zb dX11_of_118 rfl (lv_at hl 1 rfl) ?_
      refine g_ialdN (i := j) XX hP 3 2 rfl rfl (by omega) (by decide) dX11_of_119 ?_
      exact fin _ _ (Y.2.2.2.2 j) V 120 _ dX11_of_120 (fun h => by cases h) ⟨(by unfold ofR ofOk; rw [c_5, nI_clamp (by omega)]; simp [ofV, wi]), (by unfold ofOk; rw [c_5]; rfl)⟩ hP hD hS
    by_cases e18_5 : w = (5 : Int32)
    · subst e18_5
      refine lv_tableIn (off := 103) (tgt := 121) zx zb dX11_of_18 (by decide) (by decide) rfl (by decide) ?_
      refine lv_aload_n zx zb dX11_of_121 rfl (lv_at hl 0 rfl) ?_
      refine g_get (v := .ref (s 0)) XX hP 0 0 rfl rfl rfl iwX11 0 (by decide) fl_X11_30 rfl dX11_of_122 ?_
      refine g_get (v := .ref (y 0)) XX hP 1 0 rfl rfl rfl iwX8 1 (by decide) fl_X11_82 rfl dX11_of_125 ?_
      refine lv_iload_n zx zb dX11_of_128 rfl (lv_at hl 1 rfl) ?_
      refine call_Vi (As := [.int (nI j)]) (rest := []) XX cv_X11_177 (c_X10_isLost Γ l y Y j (by omega)) hP hD hS hA [3] (by decide) rfl (fun _ => rfl) 3 0 rfl rfl rfl rfl hl.1 rfl ⟨⟨by decide, by decide⟩, by decide, by decide⟩ (Nat.le_of_ble_eq_true rfl) dX11_of_129 (fun r_129 u H locs hw hP hD hS => ?_)
      have hw := hw.symm
      subst hw
      have hP : bP Γ [bTT Γ t s x V, bSt Γ s c y p pc, bCo Γ c k C, bYr Γ y Y] H := hP
      have hD : bD AA [bTT Γ t s x V, bSt Γ s c y p pc, bCo Γ c k C, bYr Γ y Y] := hD
      refine lv_if_eq (tgt := 139) zx zb dX11_of_132 (by decide) (fun c_132 => ?_) (fun c_132 => ?_)
      · have c_132 : (yrLost Y j) = false := bI_0.mp c_132
        refine lv_iconst (v := nI 0) zx zb dX11_of_139 (by decide) ?_
        exact fin _ _ (nI 0) V 140 _ dX11_of_140 (fun h => by cases h) ⟨(by unfold ofR ofOk; rw [c_5, nI_clamp (by omega)]; simp [ofV, wi, c_132]; rfl), (by unfold ofOk; rw [c_5]; rfl)⟩ hP hD hS
      · have c_132 : (yrLost Y j) = true := bI_ne c_132
        refine lv_iconst (v := nI 1) zx zb dX11_of_135 (by decide) ?_
        refine lv_goto (tgt := 140) zx zb dX11_of_136 (by decide) ?_
        exact fin _ _ (nI 1) V 140 _ dX11_of_140 (fun h => by cases h) ⟨(by unfold ofR ofOk; rw [c_5, nI_clamp (by omega)]; simp [ofV, wi, c_132]; rfl), (by unfold ofOk; rw [c_5]; rfl)⟩ hP hD hS
    refine lv_tableOut (tgt := 141) zx zb dX11_of_18 (by have z0 := sw_nx e18_0 (n := 0) rfl; have z1 := sw_nx e18_1 (n := 1) rfl; have z2 := sw_nx e18_2 (n := 2) rfl; have z3 := sw_nx e18_3 (n := 3) rfl; have z4 := sw_nx e18_4 (n := 4) rfl; have z5 := sw_nx e18_5 (n := 5) rfl; first | exact Or.inl (by omega) | exact Or.inr (by omega) | omega) (by decide) ?_
    refine lv_aload_n zx zb dX11_of_141 rfl (lv_at hl 0 rfl) ?_
    refine lv_bipush (v := (-2)) zx zb dX11_of_142 (by decide) ?_
    refine lv_bipush (v := (-2)) zx zb dX11_of_144 (by decide) ?_
    refine call_Vi (As := [.int (-2), .int (-2)]) (rest := []) XX cv_X11_79 (c_X11_refused Γ l t s x V (-2) (-2) ) hP hD hS hA [0] (by decide) rfl (fun _ => rfl) 0 0 rfl rfl rfl rfl hl.1 rfl ⟨⟨by decide, by decide⟩, by decide, by decide⟩ (Nat.le_of_ble_eq_true rfl) dX11_of_146 (fun r_146 u H locs hw hP hD hS => ?_)
    obtain ⟨hw1, hw2⟩ := hw
    have hw1 := hw1.symm
    have hw2 := hw2.symm
    subst hw1
    subst hw2
    have hP : bP Γ [bTT Γ t s x (ttRef V (-2)), bSt Γ s c y p pc, bCo Γ c k C, bYr Γ y Y] H := hP
    have hD : bD AA [bTT Γ t s x (ttRef V (-2)), bSt Γ s c y p pc, bCo Γ c k C, bYr Γ y Y] := hD
    exact fin _ _ (-2) (ttRef V (-2)) 149 _ dX11_of_149 (fun h => by cases h) ⟨(by unfold ofR; rw [ofOk_f e18_0 e18_1 e18_2 e18_3 e18_4 e18_5]; rfl), (by rw [ofOk_f e18_0 e18_1 e18_2 e18_3 e18_4 e18_5, ttRef_b]; rfl)⟩ hP hD hS
  · have c_5 : (stCell C a) = false := bI_0.mp c_5
    refine lv_aload_n zx zb dX11_of_8 rfl (lv_at hl 0 rfl) ?_
    refine lv_bipush (v := (-2)) zx zb dX11_of_9 (by decide) ?_
    refine lv_bipush (v := (-2)) zx zb dX11_of_11 (by decide) ?_
    refine call_Vi (As := [.int (-2), .int (-2)]) (rest := []) XX cv_X11_79 (c_X11_refused Γ l t s x V (-2) (-2) ) hP hD hS hA [0] (by decide) rfl (fun _ => rfl) 0 0 rfl rfl rfl rfl hl.1 rfl ⟨⟨by decide, by decide⟩, by decide, by decide⟩ (Nat.le_of_ble_eq_true rfl) dX11_of_13 (fun r_13 u H locs hw hP hD hS => ?_)
    obtain ⟨hw1, hw2⟩ := hw
    have hw1 := hw1.symm
    have hw2 := hw2.symm
    subst hw1
    subst hw2
    have hP : bP Γ [bTT Γ t s x (ttRef V (-2)), bSt Γ s c y p pc, bCo Γ c k C, bYr Γ y Y] H := hP
    have hD : bD AA [bTT Γ t s x (ttRef V (-2)), bSt Γ s c y p pc, bCo Γ c k C, bYr Γ y Y] := hD
    exact fin _ _ (-2) (ttRef V (-2)) 16 _ dX11_of_16 (fun h => by cases h) ⟨(by simp [ofR, ofOk, c_5]), (by simp only [stV, ofOk, c_5, Bool.false_and, ttRef_b]; rfl)⟩ hP hD hS

set_option maxHeartbeats 4000000 in
set_option maxRecDepth 100000 in
theorem c_X11_about (Γ : GG) (l : Launch) (t : Nat → Nat) (s : Nat → Nat) (x : Nat → Nat) (V : V3) (c : Nat → Nat) (k : Nat → Nat) (y : Nat → Nat) (p : Nat → Nat → Nat) (pc : Nat) (C : CoV) (tr : Nat → TrV) (Y : YrV) (a : Int32) (w : Int32) (htc : C.2.2.2.2.2.2.1 ≤ 6) (hkd : ∀ i, i < 6 → (tr i).1 < 6) : Ci Γ l yX11_about cX11_about 4 (some (.int)) 2 43 0 0 [.ref (t 0), .int a, .int w] [bTT Γ t s x V, bSt Γ s c y p pc, bCo Γ c k C, bTs Γ c k tr, bKd Γ k, bYr Γ y Y] (fun (r : Int32) (u : V3) => r = abR C tr Y a w ∧ u = stV V (abOk C a w)) (fun (u : V3) => [bTT Γ t s x u, bSt Γ s c y p pc, bCo Γ c k C, bTs Γ c k tr, bKd Γ k, bYr Γ y Y]) := by
  refine Ci.of (Or.inl rfl) (by decide) (Nat.le_of_ble_eq_true rfl) ?_
  intro pp ee ss mm bb me cd AA QQ XX hnm hA hP hD fin ls hl
  obtain ⟨zx, zb, hml, hown, hts, hK⟩ := id XX
  have hS : va_S AA ss.heap ss.heap [] := va_S.rf
  have hl : lv_has ls 4 [(0, .ref (t 0)), (1, .int a), (2, .int w)] := hl
  refine lv_aload_n zx zb dX11_about_0 rfl (lv_at hl 0 rfl) ?_
  refine lv_iload_n zx zb dX11_about_1 rfl (lv_at hl 1 rfl) ?_
  refine call_Vi (As := [.int a]) (rest := []) XX cv_X11_96 (c_X11_isTreaty Γ l t s x V c k y p pc C a ) hP hD hS hA [0, 1, 2] (by decide) rfl (fun _ => rfl) 0 0 rfl rfl rfl rfl hl.1 rfl ⟨⟨by decide, by decide⟩, by decide, by decide⟩ (Nat.le_of_ble_eq_true rfl) dX11_about_2 (fun r_2 u H locs hw hP hD hS => ?_)
  have hw := hw.symm
  subst hw
  have hP : bP Γ [bTT Γ t s x V, bSt Γ s c y p pc, bCo Γ c k C, bTs Γ c k tr, bKd Γ k, bYr Γ y Y] H := hP
  have hD : bD AA [bTT Γ t s x V, bSt Γ s c y p pc, bCo Γ c k C, bTs Γ c k tr, bKd Γ k, bYr Γ y Y] := hD
  refine lv_if_ne (tgt := 17) zx zb dX11_about_5 (by decide) (fun c_5 => ?_) (fun c_5 => ?_)
  · have c_5 : (stTreaty C a) = true := bI_ne c_5
    obtain ⟨j, hj, rfl⟩ := treaty_nat c_5 htc
    refine lv_aload_n zx zb dX11_about_17 rfl (lv_at hl 0 rfl) ?_
    refine g_get (v := .ref (s 0)) XX hP 0 0 rfl rfl rfl iwX11 0 (by decide) fl_X11_30 rfl dX11_about_18 ?_
    refine g_get (v := .ref (c 0)) XX hP 1 0 rfl rfl rfl iwX8 0 (by decide) fl_X11_100 rfl dX11_about_21 ?_
    refine g_get (v := .ref (c 5)) XX hP 2 0 rfl rfl rfl iwX2 7 (by decide) fl_X11_104 rfl dX11_about_24 ?_
    refine lv_iload_n zx zb dX11_about_27 rfl (lv_at hl 1 rfl) ?_
    refine g_aald (i := j) (v := c (6 + j)) XX hP 2 5 4 rfl rfl rfl (by omega) (by decide) rfl dX11_about_28 ?_
    refine lv_astore_n (lv' := [(3, .ref (c (6 + j))), (0, .ref (t 0)), (1, .int (nI j)), (2, .int w)]) zx zb dX11_about_29 rfl hl (by decide) rfl (fun ls hl => ?_)
    refine lv_iload_n zx zb dX11_about_30 rfl (lv_at hl 3 rfl) ?_
    by_cases e31_0 : w = (0 : Int32)
    · subst e31_0
      refine lv_tableIn (off := 33) (tgt := 64) zx zb dX11_about_31 (by decide) (by decide) rfl (by decide) ?_
      refine lv_aload_n zx zb dX11_about_64 rfl (lv_at hl 0 rfl) ?_
      refine g_get (v := .int ((tr j).2.1)) XX hP 3 j rfl (bTs_at Γ c k tr (by omega)) rfl iwX9 1 (by decide) fl_X11_180 rfl dX11_about_65 ?_
      exact fin _ _ ((tr j).2.1) V 68 _ dX11_about_68 (fun h => by cases h) ⟨(by unfold abR abOk; rw [c_5, nI_clamp (by omega)]; simp [abV, wi]), (by unfold abOk; rw [c_5]; rfl)⟩ hP hD hS
    by_cases e31_1 : w = (1 : Int32)
    · subst e31_1
      refine lv_tableIn (off := 38) (tgt := 69) zx zb dX11_about_31 (by decide) (by decide) rfl (by decide) ?_
      refine lv_aload_n zx zb dX11_about_69 rfl (lv_at hl 0 rfl) ?_
      refine g_get (v := .int ((tr j).2.2.2.2.2.2.2)) XX hP 3 j rfl (bTs_at Γ c k tr (by omega)) rfl iwX9 7 (by decide) fl_X11_183 rfl dX11_about_70 ?_
      exact fin _ _ ((tr j).2.2.2.2.2.2.2) V 73 _ dX11_about_73 (fun h => by cases h) ⟨(by unfold abR abOk; rw [c_5, nI_clamp (by omega)]; simp [abV, wi]), (by unfold abOk; rw [c_5]; rfl)⟩ hP hD hS
    by_cases e31_2 : w = (2 : Int32)
    · subst e31_2
      refine lv_tableIn (off := 43) (tgt := 74) zx zb dX11_about_31 (by decide) (by decide) rfl (by decide) ?_
      refine lv_aload_n zx zb dX11_about_74 rfl (lv_at hl 0 rfl) ?_
      refine g_get (v := .ref (k ((tr j).1))) XX hP 3 j rfl (bTs_at Γ c k tr (by omega)) rfl iwX9 0 (by decide) fl_X11_186 rfl dX11_about_75 ?_
      refine lv_aload_n zx zb dX11_about_78 rfl (lv_at hl 1 rfl) ?_
      refine g_get (v := .ref (s 0)) XX hP 0 0 rfl rfl rfl iwX11 0 (by decide) fl_X11_30 rfl dX11_about_79 ?_
      refine g_get (v := .ref (c 0)) XX hP 1 0 rfl rfl rfl iwX8 0 (by decide) fl_X11_100 rfl dX11_about_82 ?_
      refine lv_aload_n zx zb dX11_about_85 rfl (lv_at hl 1 rfl) ?_
      refine g_get (v := .ref (s 0)) XX hP 0 0 rfl rfl rfl iwX11 0 (by decide) fl_X11_30 rfl dX11_about_86 ?_
      refine g_get (v := .ref (y 0)) XX hP 1 0 rfl rfl rfl iwX8 1 (by decide) fl_X11_82 rfl dX11_about_89 ?_
      refine g_get (v := .int Y.1) XX hP 5 0 rfl rfl rfl iwX10 0 (by decide) fl_X11_110 rfl dX11_about_92 ?_
      refine call_Vi (As := [.int Y.1]) (rest := [.ref (k ((tr j).1))]) XX cv_X11_190 (c_X2_isSpring Γ l c k C Y.1 ) hP hD hS hA [2] (by decide) rfl (fun _ => rfl) 2 0 rfl rfl rfl rfl hl.1 rfl ⟨⟨by decide, by decide⟩, by decide, by decide⟩ (Nat.le_of_ble_eq_true rfl) dX11_about_95 (fun r_95 u H locs hw hP hD hS => ?_)
      have hw := hw.symm
      subst hw
      have hP : bP Γ [bTT Γ t s x V, bSt Γ s c y p pc, bCo Γ c k C, bTs Γ c k tr, bKd Γ k, bYr Γ y Y] H := hP
      have hD : bD AA [bTT Γ t s x V, bSt Γ s c y p pc, bCo Γ c k C, bTs Γ c k tr, bKd Γ k, bYr Γ y Y] := hD
      have K98 : ∀ (H : Heap) (locs : List Loc), bP Γ [bTT Γ t s x V, bSt Γ s c y p pc, bCo Γ c k C, bTs Γ c k tr, bKd Γ k, bYr Γ y Y] H → va_S AA ss.heap H locs → W pp l ee { frames := 2, cells := 0, slots := 0, locals := 43 } ss mm [.ref (t 0), .int (nI j), .int (2)].toArray bb me cd H locs 0 0 QQ (F0 mm 101 ls [.int (kHolds ((tr j).1) (coSpring C Y.1))]) := by
        intro H locs hP hS
        exact fin _ _ (kHolds ((tr j).1) (coSpring C Y.1)) V 101 _ dX11_about_101 (fun h => by cases h) ⟨(by unfold abR abOk; rw [c_5, nI_clamp (by omega)]; simp [abV, wi]), (by unfold abOk; rw [c_5]; rfl)⟩ hP hD hS
      have h6_98 : (tr j).1 < 6 := hkd j (by omega)
      rcases (show (tr j).1 = 0 ∨ (tr j).1 = 1 ∨ (tr j).1 = 2 ∨ (tr j).1 = 3 ∨ (tr j).1 = 4 ∨ (tr j).1 = 5 by omega) with h | h | h | h | h | h
      · refine callR_Oi (As := [.int (bI (coSpring C Y.1))]) (rest := []) XX co_X11_193_X6 (c_X6_holds Γ l (k 0) (coSpring C Y.1)) hP hD hS hA nil_mem nil_D 4 1 rfl rfl rfl rfl hl.1 (by rw [h]; rfl) ⟨⟨by decide, by decide⟩, by decide, by decide⟩ (Nat.le_of_ble_eq_true rfl) dX11_about_98 (fun r H locs hw hP hS => ?_)
        have e : r = kHolds ((tr j).1) (coSpring C Y.1) := by rw [hw, h]; rfl
        rw [e]
        exact K98 H locs hP hS
      · refine callR_Oi (As := [.int (bI (coSpring C Y.1))]) (rest := []) XX co_X11_193_X5 (c_X5_holds_5 Γ l (k 1) (coSpring C Y.1)) hP hD hS hA (one_mem (bs := [bTT Γ t s x V, bSt Γ s c y p pc, bCo Γ c k C, bTs Γ c k tr, bKd Γ k, bYr Γ y Y]) (k := 4) (j := 2) rfl rfl) (one_D _) 4 2 rfl rfl rfl rfl hl.1 (by rw [h]; rfl) ⟨⟨by decide, by decide⟩, by decide, by decide⟩ (Nat.le_of_ble_eq_true rfl) dX11_about_98 (fun r H locs hw hP hS => ?_)
        have e : r = kHolds ((tr j).1) (coSpring C Y.1) := by rw [hw, h]; rfl
        rw [e]
        exact K98 H locs hP hS
      · refine callR_Oi (As := [.int (bI (coSpring C Y.1))]) (rest := []) XX co_X11_193_X1 (c_X1_holds_1 Γ l (k 2) (coSpring C Y.1)) hP hD hS hA (one_mem (bs := [bTT Γ t s x V, bSt Γ s c y p pc, bCo Γ c k C, bTs Γ c k tr, bKd Γ k, bYr Γ y Y]) (k := 4) (j := 3) rfl rfl) (one_D _) 4 3 rfl rfl rfl rfl hl.1 (by rw [h]; rfl) ⟨⟨by decide, by decide⟩, by decide, by decide⟩ (Nat.le_of_ble_eq_true rfl) dX11_about_98 (fun r H locs hw hP hS => ?_)
        have e : r = kHolds ((tr j).1) (coSpring C Y.1) := by rw [hw, h]; rfl
        rw [e]
        exact K98 H locs hP hS
      · refine callR_Oi (As := [.int (bI (coSpring C Y.1))]) (rest := []) XX co_X11_193_X0 (c_X6_holds Γ l (k 3) (coSpring C Y.1)) hP hD hS hA nil_mem nil_D 4 4 rfl rfl rfl rfl hl.1 (by rw [h]; rfl) ⟨⟨by decide, by decide⟩, by decide, by decide⟩ (Nat.le_of_ble_eq_true rfl) dX11_about_98 (fun r H locs hw hP hS => ?_)
        have e : r = kHolds ((tr j).1) (coSpring C Y.1) := by rw [hw, h]; rfl
        rw [e]
        exact K98 H locs hP hS
      · refine callR_Oi (As := [.int (bI (coSpring C Y.1))]) (rest := []) XX co_X11_193_X4 (c_X5_holds_4 Γ l (k 4) (coSpring C Y.1)) hP hD hS hA (one_mem (bs := [bTT Γ t s x V, bSt Γ s c y p pc, bCo Γ c k C, bTs Γ c k tr, bKd Γ k, bYr Γ y Y]) (k := 4) (j := 5) rfl rfl) (one_D _) 4 5 rfl rfl rfl rfl hl.1 (by rw [h]; rfl) ⟨⟨by decide, by decide⟩, by decide, by decide⟩ (Nat.le_of_ble_eq_true rfl) dX11_about_98 (fun r H locs hw hP hS => ?_)
        have e : r = kHolds ((tr j).1) (coSpring C Y.1) := by rw [hw, h]; rfl
        rw [e]
        exact K98 H locs hP hS
      · refine callR_Oi (As := [.int (bI (coSpring C Y.1))]) (rest := []) XX co_X11_193_X3 (c_X3_holds_3 Γ l (k 5) (coSpring C Y.1)) hP hD hS hA (one_mem (bs := [bTT Γ t s x V, bSt Γ s c y p pc, bCo Γ c k C, bTs Γ c k tr, bKd Γ k, bYr Γ y Y]) (k := 4) (j := 6) rfl rfl) (one_D _) 4 6 rfl rfl rfl rfl hl.1 (by rw [h]; rfl) ⟨⟨by decide, by decide⟩, by decide, by decide⟩ (Nat.le_of_ble_eq_true rfl) dX11_about_98 (fun r H locs hw hP hS => ?_)
        have e : r = kHolds ((tr j).1) (coSpring C Y.1) := by rw [hw, h]; rfl
        rw [e]
        exact K98 H locs hP hS
    by_cases e31_3 : w = (3 : Int32)
    · subst e31_3
      refine lv_tableIn (off := 71) (tgt := 102) zx zb dX11_about_31 (by decide) (by decide) rfl (by decide) ?_
      refine lv_aload_n zx zb dX11_about_102 rfl (lv_at hl 1 rfl) ?_
      refine g_get (v := .ref (s 0)) XX hP 0 0 rfl rfl rfl iwX11 0 (by decide) fl_X11_30 rfl dX11_about_103 ?_
      refine g_get (v := .ref (y 0)) XX hP 1 0 rfl rfl rfl iwX8 1 (by decide) fl_X11_82 rfl dX11_about_106 ?_
      refine lv_iload_n zx zb dX11_about_109 rfl (lv_at hl 2 rfl) ?_
      refine call_Vi (As := [.int (nI j)]) (rest := []) XX cv_X11_197 (c_X10_isBreached Γ l y Y j (by omega)) hP hD hS hA [5] (by decide) rfl (fun _ => rfl) 5 0 rfl rfl rfl rfl hl.1 rfl ⟨⟨by decide, by decide⟩, by decide, by decide⟩ (Nat.le_of_ble_eq_true rfl) dX11_about_110 (fun r_110 u H locs hw hP hD hS => ?_)
      have hw := hw.symm
      subst hw
      have hP : bP Γ [bTT Γ t s x V, bSt Γ s c y p pc, bCo Γ c k C, bTs Γ c k tr, bKd Γ k, bYr Γ y Y] H := hP
      have hD : bD AA [bTT Γ t s x V, bSt Γ s c y p pc, bCo Γ c k C, bTs Γ c k tr, bKd Γ k, bYr Γ y Y] := hD
      refine lv_if_eq (tgt := 120) zx zb dX11_about_113 (by decide) (fun c_113 => ?_) (fun c_113 => ?_)
      · have c_113 : (yrBr Y j) = false := bI_0.mp c_113
        refine lv_iconst (v := nI 0) zx zb dX11_about_120 (by decide) ?_
        exact fin _ _ (nI 0) V 121 _ dX11_about_121 (fun h => by cases h) ⟨(by unfold abR abOk; rw [c_5, nI_clamp (by omega)]; simp [abV, wi, c_113]; rfl), (by unfold abOk; rw [c_5]; rfl)⟩ hP hD hS
      · have c_113 : (yrBr Y j) = true := bI_ne c_113
        refine lv_iconst (v := nI 1) zx zb dX11_about_116 (by decide) ?_
        refine lv_goto (tgt := 121) zx zb dX11_about_117 (by decide) ?_
        exact fin _ _ (nI 1) V 121 _ dX11_about_121 (fun h => by cases h) ⟨(by unfold abR abOk; rw [c_5, nI_clamp (by omega)]; simp [abV, wi, c_113]; rfl), (by unfold abOk; rw [c_5]; rfl)⟩ hP hD hS
    by_cases e31_4 : w = (4 : Int32)
    · subst e31_4
      refine lv_tableIn (off := 91) (tgt := 122) zx zb dX11_about_31 (by decide) (by decide) rfl (by decide) ?_
      refine lv_aload_n zx zb dX11_about_122 rfl (lv_at hl 0 rfl) ?_
      refine g_get (v := .int ((tr j).2.2.2.2.2.1)) XX hP 3 j rfl (bTs_at Γ c k tr (by omega)) rfl iwX9 5 (by decide) fl_X11_118 rfl dX11_about_123 ?_
      exact fin _ _ ((tr j).2.2.2.2.2.1) V 126 _ dX11_about_126 (fun h => by cases h) ⟨(by unfold abR abOk; rw [c_5, nI_clamp (by omega)]; simp [abV, wi]), (by unfold abOk; rw [c_5]; rfl)⟩ hP hD hS
    refine lv_tableOut (tgt := 127) zx zb dX11_about_31 (by have z0 := sw_nx e31_0 (n := 0) rfl; have z1 := sw_nx e31_1 (n := 1) rfl; have z2 := sw_nx e31_2 (n := 2) rfl; have z3 := sw_nx e31_3 (n := 3) rfl; have z4 := sw_nx e31_4 (n := 4) rfl; first | exact Or.inl (by omega) | exact Or.inr (by omega) | omega) (by decide) ?_
    refine lv_aload_n zx zb dX11_about_127 rfl (lv_at hl 1 rfl) ?_
    refine lv_bipush (v := (-2)) zx zb dX11_about_128 (by decide) ?_
    refine lv_bipush (v := (-2)) zx zb dX11_about_130 (by decide) ?_
    refine call_Vi (As := [.int (-2), .int (-2)]) (rest := []) XX cv_X11_79 (c_X11_refused Γ l t s x V (-2) (-2) ) hP hD hS hA [0] (by decide) rfl (fun _ => rfl) 0 0 rfl rfl rfl rfl hl.1 rfl ⟨⟨by decide, by decide⟩, by decide, by decide⟩ (Nat.le_of_ble_eq_true rfl) dX11_about_132 (fun r_132 u H locs hw hP hD hS => ?_)
    obtain ⟨hw1, hw2⟩ := hw
    have hw1 := hw1.symm
    have hw2 := hw2.symm
    subst hw1
    subst hw2
    have hP : bP Γ [bTT Γ t s x (ttRef V (-2)), bSt Γ s c y p pc, bCo Γ c k C, bTs Γ c k tr, bKd Γ k, bYr Γ y Y] H := hP
    have hD : bD AA [bTT Γ t s x (ttRef V (-2)), bSt Γ s c y p pc, bCo Γ c k C, bTs Γ c k tr, bKd Γ k, bYr Γ y Y] := hD
    exact fin _ _ (-2) (ttRef V (-2)) 135 _ dX11_about_135 (fun h => by cases h) ⟨(by unfold abR; rw [abOk_f e31_0 e31_1 e31_2 e31_3 e31_4]; rfl), (by rw [abOk_f e31_0 e31_1 e31_2 e31_3 e31_4, ttRef_b]; rfl)⟩ hP hD hS
  · have c_5 : (stTreaty C a) = false := bI_0.mp c_5
    refine lv_aload_n zx zb dX11_about_8 rfl (lv_at hl 0 rfl) ?_
    refine lv_bipush (v := (-2)) zx zb dX11_about_9 (by decide) ?_
    refine lv_bipush (v := (-2)) zx zb dX11_about_11 (by decide) ?_
    refine call_Vi (As := [.int (-2), .int (-2)]) (rest := []) XX cv_X11_79 (c_X11_refused Γ l t s x V (-2) (-2) ) hP hD hS hA [0] (by decide) rfl (fun _ => rfl) 0 0 rfl rfl rfl rfl hl.1 rfl ⟨⟨by decide, by decide⟩, by decide, by decide⟩ (Nat.le_of_ble_eq_true rfl) dX11_about_13 (fun r_13 u H locs hw hP hD hS => ?_)
    obtain ⟨hw1, hw2⟩ := hw
    have hw1 := hw1.symm
    have hw2 := hw2.symm
    subst hw1
    subst hw2
    have hP : bP Γ [bTT Γ t s x (ttRef V (-2)), bSt Γ s c y p pc, bCo Γ c k C, bTs Γ c k tr, bKd Γ k, bYr Γ y Y] H := hP
    have hD : bD AA [bTT Γ t s x (ttRef V (-2)), bSt Γ s c y p pc, bCo Γ c k C, bTs Γ c k tr, bKd Γ k, bYr Γ y Y] := hD
    exact fin _ _ (-2) (ttRef V (-2)) 16 _ dX11_about_16 (fun h => by cases h) ⟨(by simp [abR, abOk, c_5]), (by simp only [stV, abOk, c_5, Bool.false_and, ttRef_b]; rfl)⟩ hP hD hS

set_option maxHeartbeats 4000000 in
set_option maxRecDepth 100000 in
theorem c_X11_amount (Γ : GG) (l : Launch) (t : Nat → Nat) (s : Nat → Nat) (x : Nat → Nat) (V : V3) (c : Nat → Nat) (k : Nat → Nat) (y : Nat → Nat) (p : Nat → Nat → Nat) (pc : Nat) (C : CoV) (Y : YrV) (L : ScV) (w : Int32)  : Ci Γ l yX11_amount cX11_amount 2 (some (.int)) 0 0 0 0 [.ref (t 0), .int w] [bTT Γ t s x V, bSt Γ s c y p pc, bCo Γ c k C, bYr Γ y Y, bSc Γ t L] (fun (r : Int32) (u : Unit) => r = amV C Y pc L.1 w) (fun (u : Unit) => [bTT Γ t s x V, bSt Γ s c y p pc, bCo Γ c k C, bYr Γ y Y, bSc Γ t L]) := by
  refine Ci.of (Or.inl rfl) (by decide) (Nat.le_of_ble_eq_true rfl) ?_
  intro pp ee ss mm bb me cd AA QQ XX hnm hA hP hD fin ls hl
  obtain ⟨zx, zb, hml, hown, hts, hK⟩ := id XX
  have hS : va_S AA ss.heap ss.heap [] := va_S.rf
  have hl : lv_has ls 2 [(0, .ref (t 0)), (1, .int w)] := hl
  refine lv_iload_n zx zb dX11_amount_0 rfl (lv_at hl 1 rfl) ?_
  by_cases e1_0 : w = (0 : Int32)
  · subst e1_0
    refine lv_tableIn (off := 43) (tgt := 44) zx zb dX11_amount_1 (by decide) (by decide) rfl (by decide) ?_
    refine lv_aload_n zx zb dX11_amount_44 rfl (lv_at hl 0 rfl) ?_
    refine g_get (v := .ref (s 0)) XX hP 0 0 rfl rfl rfl iwX11 0 (by decide) fl_X11_30 rfl dX11_amount_45 ?_
    refine g_get (v := .ref (c 0)) XX hP 1 0 rfl rfl rfl iwX8 0 (by decide) fl_X11_100 rfl dX11_amount_48 ?_
    refine g_get (v := .int (nI (C.1))) XX hP 2 0 rfl rfl rfl iwX2 1 (by decide) fl_X11_230 rfl dX11_amount_51 ?_
    exact fin _ _ (nI (C.1)) () 54 _ dX11_amount_54 (fun h => by cases h) (by simp [amV]) hP hD hS
  by_cases e1_1 : w = (1 : Int32)
  · subst e1_1
    refine lv_tableIn (off := 54) (tgt := 55) zx zb dX11_amount_1 (by decide) (by decide) rfl (by decide) ?_
    refine lv_aload_n zx zb dX11_amount_55 rfl (lv_at hl 0 rfl) ?_
    refine g_get (v := .ref (s 0)) XX hP 0 0 rfl rfl rfl iwX11 0 (by decide) fl_X11_30 rfl dX11_amount_56 ?_
    refine g_get (v := .ref (y 0)) XX hP 1 0 rfl rfl rfl iwX8 1 (by decide) fl_X11_82 rfl dX11_amount_59 ?_
    refine g_get (v := .int Y.1) XX hP 3 0 rfl rfl rfl iwX10 0 (by decide) fl_X11_110 rfl dX11_amount_62 ?_
    exact fin _ _ Y.1 () 65 _ dX11_amount_65 (fun h => by cases h) (by simp [amV]) hP hD hS
  by_cases e1_2 : w = (2 : Int32)
  · subst e1_2
    refine lv_tableIn (off := 65) (tgt := 66) zx zb dX11_amount_1 (by decide) (by decide) rfl (by decide) ?_
    refine lv_aload_n zx zb dX11_amount_66 rfl (lv_at hl 0 rfl) ?_
    refine g_get (v := .ref (s 0)) XX hP 0 0 rfl rfl rfl iwX11 0 (by decide) fl_X11_30 rfl dX11_amount_67 ?_
    refine g_get (v := .ref (y 0)) XX hP 1 0 rfl rfl rfl iwX8 1 (by decide) fl_X11_82 rfl dX11_amount_70 ?_
    refine g_get (v := .int Y.2.1) XX hP 3 0 rfl rfl rfl iwX10 1 (by decide) fl_X11_86 rfl dX11_amount_73 ?_
    exact fin _ _ Y.2.1 () 76 _ dX11_amount_76 (fun h => by cases h) (by simp [amV]) hP hD hS
  by_cases e1_3 : w = (3 : Int32)
  · subst e1_3
    refine lv_tableIn (off := 76) (tgt := 77) zx zb dX11_amount_1 (by decide) (by decide) rfl (by decide) ?_
    refine lv_aload_n zx zb dX11_amount_77 rfl (lv_at hl 0 rfl) ?_
    refine g_get (v := .ref (s 0)) XX hP 0 0 rfl rfl rfl iwX11 0 (by decide) fl_X11_30 rfl dX11_amount_78 ?_
    refine g_get (v := .ref (c 0)) XX hP 1 0 rfl rfl rfl iwX8 0 (by decide) fl_X11_100 rfl dX11_amount_81 ?_
    refine g_get (v := .int C.2.1) XX hP 2 0 rfl rfl rfl iwX2 2 (by decide) fl_X11_332 rfl dX11_amount_84 ?_
    exact fin _ _ C.2.1 () 87 _ dX11_amount_87 (fun h => by cases h) (by simp [amV]) hP hD hS
  by_cases e1_4 : w = (4 : Int32)
  · subst e1_4
    refine lv_tableIn (off := 87) (tgt := 88) zx zb dX11_amount_1 (by decide) (by decide) rfl (by decide) ?_
    refine lv_aload_n zx zb dX11_amount_88 rfl (lv_at hl 0 rfl) ?_
    refine g_get (v := .ref (s 0)) XX hP 0 0 rfl rfl rfl iwX11 0 (by decide) fl_X11_30 rfl dX11_amount_89 ?_
    refine g_get (v := .ref (c 0)) XX hP 1 0 rfl rfl rfl iwX8 0 (by decide) fl_X11_100 rfl dX11_amount_92 ?_
    refine g_get (v := .int (nI (C.2.2.2.2.2.2.1))) XX hP 2 0 rfl rfl rfl iwX2 8 (by decide) fl_X11_216 rfl dX11_amount_95 ?_
    exact fin _ _ (nI (C.2.2.2.2.2.2.1)) () 98 _ dX11_amount_98 (fun h => by cases h) (by simp [amV]) hP hD hS
  by_cases e1_5 : w = (5 : Int32)
  · subst e1_5
    refine lv_tableIn (off := 98) (tgt := 99) zx zb dX11_amount_1 (by decide) (by decide) rfl (by decide) ?_
    refine lv_aload_n zx zb dX11_amount_99 rfl (lv_at hl 0 rfl) ?_
    refine g_get (v := .ref (s 0)) XX hP 0 0 rfl rfl rfl iwX11 0 (by decide) fl_X11_30 rfl dX11_amount_100 ?_
    refine g_get (v := .ref (c 0)) XX hP 1 0 rfl rfl rfl iwX8 0 (by decide) fl_X11_100 rfl dX11_amount_103 ?_
    refine g_get (v := .int (nI (C.2.2.2.2.2.2.2.1))) XX hP 2 0 rfl rfl rfl iwX2 12 (by decide) fl_X11_335 rfl dX11_amount_106 ?_
    exact fin _ _ (nI (C.2.2.2.2.2.2.2.1)) () 109 _ dX11_amount_109 (fun h => by cases h) (by simp [amV]) hP hD hS
  by_cases e1_6 : w = (6 : Int32)
  · subst e1_6
    refine lv_tableIn (off := 109) (tgt := 110) zx zb dX11_amount_1 (by decide) (by decide) rfl (by decide) ?_
    refine lv_aload_n zx zb dX11_amount_110 rfl (lv_at hl 0 rfl) ?_
    refine g_get (v := .ref (s 0)) XX hP 0 0 rfl rfl rfl iwX11 0 (by decide) fl_X11_30 rfl dX11_amount_111 ?_
    refine g_get (v := .int (nI pc)) XX hP 1 0 rfl rfl rfl iwX8 3 (by decide) fl_X11_329 rfl dX11_amount_114 ?_
    exact fin _ _ (nI pc) () 117 _ dX11_amount_117 (fun h => by cases h) (by simp [amV]) hP hD hS
  refine lv_tableOut (tgt := 118) zx zb dX11_amount_1 (by have z0 := sw_nx e1_0 (n := 0) rfl; have z1 := sw_nx e1_1 (n := 1) rfl; have z2 := sw_nx e1_2 (n := 2) rfl; have z3 := sw_nx e1_3 (n := 3) rfl; have z4 := sw_nx e1_4 (n := 4) rfl; have z5 := sw_nx e1_5 (n := 5) rfl; have z6 := sw_nx e1_6 (n := 6) rfl; first | exact Or.inl (by omega) | exact Or.inr (by omega) | omega) (by decide) ?_
  refine lv_aload_n zx zb dX11_amount_118 rfl (lv_at hl 0 rfl) ?_
  refine g_get (v := .ref (t 2)) XX hP 0 0 rfl rfl rfl iwX11 3 (by decide) fl_X11_46 rfl dX11_amount_119 ?_
  refine g_get (v := .int (nI (L.1))) XX hP 4 0 rfl rfl rfl iwX7 1 (by decide) fl_X11_121 rfl dX11_amount_122 ?_
  exact fin _ _ (nI (L.1)) () 125 _ dX11_amount_125 (fun h => by cases h) (by simp [amV, e1_0, e1_1, e1_2, e1_3, e1_4, e1_5, e1_6]) hP hD hS

set_option maxHeartbeats 4000000 in
set_option maxRecDepth 100000 in
theorem c_X11_count (Γ : GG) (l : Launch) (t : Nat → Nat) (s : Nat → Nat) (x : Nat → Nat) (V : V3) (c : Nat → Nat) (k : Nat → Nat) (y : Nat → Nat) (p : Nat → Nat → Nat) (pc : Nat) (C : CoV) (Y : YrV) (L : ScV) (w : Int32)  : Ci Γ l yX11_count cX11_count 2 (some (.int)) 1 22 0 0 [.ref (t 0), .int w] [bTT Γ t s x V, bSt Γ s c y p pc, bCo Γ c k C, bYr Γ y Y, bSc Γ t L] (fun (r : Int32) (u : V3) => r = cnR C Y pc L.1 w ∧ u = stV V (wi w 0 7)) (fun (u : V3) => [bTT Γ t s x u, bSt Γ s c y p pc, bCo Γ c k C, bYr Γ y Y, bSc Γ t L]) := by
  refine Ci.of (Or.inl rfl) (by decide) (Nat.le_of_ble_eq_true rfl) ?_
  intro pp ee ss mm bb me cd AA QQ XX hnm hA hP hD fin ls hl
  obtain ⟨zx, zb, hml, hown, hts, hK⟩ := id XX
  have hS : va_S AA ss.heap ss.heap [] := va_S.rf
  have hl : lv_has ls 2 [(0, .ref (t 0)), (1, .int w)] := hl
  refine lv_iload_n zx zb dX11_count_0 rfl (lv_at hl 1 rfl) ?_
  refine lv_iconst (v := nI 0) zx zb dX11_count_1 (by decide) ?_
  refine lv_bipush (v := nI 7) zx zb dX11_count_2 (by decide) ?_
  refine callR_Si (As := [.int w, .int (nI 0), .int (nI 7)]) (rest := []) XX cs_X11_75 (c_X11_within Γ l w 0 7 ) hP hD hS hA nil_mem nil_D rfl hl.1 rfl ⟨⟨by decide, by decide⟩, by decide, by decide⟩ (Nat.le_of_ble_eq_true rfl) dX11_count_4 (fun r_4 H locs hw hP hS => ?_)
  have hw := hw.symm
  subst hw
  refine lv_if_eq (tgt := 18) zx zb dX11_count_7 (by decide) (fun c_7 => ?_) (fun c_7 => ?_)
  · have c_7 : (wi w 0 7) = false := bI_0.mp c_7
    refine lv_aload_n zx zb dX11_count_18 rfl (lv_at hl 0 rfl) ?_
    refine lv_bipush (v := (-2)) zx zb dX11_count_19 (by decide) ?_
    refine lv_bipush (v := (-2)) zx zb dX11_count_21 (by decide) ?_
    refine call_Vi (As := [.int (-2), .int (-2)]) (rest := []) XX cv_X11_79 (c_X11_refused Γ l t s x V (-2) (-2) ) hP hD hS hA [0] (by decide) rfl (fun _ => rfl) 0 0 rfl rfl rfl rfl hl.1 rfl ⟨⟨by decide, by decide⟩, by decide, by decide⟩ (Nat.le_of_ble_eq_true rfl) dX11_count_23 (fun r_23 u H locs hw hP hD hS => ?_)
    obtain ⟨hw1, hw2⟩ := hw
    have hw1 := hw1.symm
    have hw2 := hw2.symm
    subst hw1
    subst hw2
    have hP : bP Γ [bTT Γ t s x (ttRef V (-2)), bSt Γ s c y p pc, bCo Γ c k C, bYr Γ y Y, bSc Γ t L] H := hP
    have hD : bD AA [bTT Γ t s x (ttRef V (-2)), bSt Γ s c y p pc, bCo Γ c k C, bYr Γ y Y, bSc Γ t L] := hD
    exact fin _ _ (-2) (ttRef V (-2)) 26 _ dX11_count_26 (fun h => by cases h) ⟨(by simp [cnR, c_7]), (by simp only [stV, c_7, ttRef_b]; rfl)⟩ hP hD hS
  · have c_7 : (wi w 0 7) = true := bI_ne c_7
    refine lv_aload_n zx zb dX11_count_10 rfl (lv_at hl 0 rfl) ?_
    refine lv_iload_n zx zb dX11_count_11 rfl (lv_at hl 1 rfl) ?_
    refine call_Vi (As := [.int w]) (rest := []) XX cv_X11_309 (c_X11_amount Γ l t s x V c k y p pc C Y L w ) hP hD hS hA [0, 1, 2, 3, 4] (by decide) rfl (fun _ => rfl) 0 0 rfl rfl rfl rfl hl.1 rfl ⟨⟨by decide, by decide⟩, by decide, by decide⟩ (Nat.le_of_ble_eq_true rfl) dX11_count_12 (fun r_12 u H locs hw hP hD hS => ?_)
    have hw := hw.symm
    subst hw
    have hP : bP Γ [bTT Γ t s x V, bSt Γ s c y p pc, bCo Γ c k C, bYr Γ y Y, bSc Γ t L] H := hP
    have hD : bD AA [bTT Γ t s x V, bSt Γ s c y p pc, bCo Γ c k C, bYr Γ y Y, bSc Γ t L] := hD
    refine lv_goto (tgt := 26) zx zb dX11_count_15 (by decide) ?_
    exact fin _ _ (amV C Y pc L.1 w) V 26 _ dX11_count_26 (fun h => by cases h) ⟨(by simp [cnR, c_7]), (by simp only [stV, c_7, ttRef_b]; rfl)⟩ hP hD hS

set_option maxHeartbeats 4000000 in
set_option maxRecDepth 100000 in
theorem c_X11_status (Γ : GG) (l : Launch) (t : Nat → Nat) (s : Nat → Nat) (x : Nat → Nat) (V : V3) (w : Int32)  : Ci Γ l yX11_status cX11_status 2 (some (.int)) 1 22 0 0 [.ref (t 0), .int w] [bTT Γ t s x V] (fun (r : Int32) (u : V3) => r = suR V w ∧ u = suV V w) (fun (u : V3) => [bTT Γ t s x u]) := by
  refine Ci.of (Or.inl rfl) (by decide) (Nat.le_of_ble_eq_true rfl) ?_
  intro pp ee ss mm bb me cd AA QQ XX hnm hA hP hD fin ls hl
  obtain ⟨zx, zb, hml, hown, hts, hK⟩ := id XX
  have hS : va_S AA ss.heap ss.heap [] := va_S.rf
  have hl : lv_has ls 2 [(0, .ref (t 0)), (1, .int w)] := hl
  refine lv_iload_n zx zb dX11_status_0 rfl (lv_at hl 1 rfl) ?_
  by_cases e1_0 : w = (0 : Int32)
  · subst e1_0
    refine lv_tableIn (off := 27) (tgt := 28) zx zb dX11_status_1 (by decide) (by decide) rfl (by decide) ?_
    refine lv_aload_n zx zb dX11_status_28 rfl (lv_at hl 0 rfl) ?_
    refine g_get (v := .int V.1) XX hP 0 0 rfl rfl rfl iwX11 5 (by decide) fl_X11_300 rfl dX11_status_29 ?_
    exact fin _ _ V.1 V 32 _ dX11_status_32 (fun h => by cases h) ⟨(by simp [suR]), (by simp [suV])⟩ hP hD hS
  by_cases e1_1 : w = (1 : Int32)
  · subst e1_1
    refine lv_tableIn (off := 32) (tgt := 33) zx zb dX11_status_1 (by decide) (by decide) rfl (by decide) ?_
    refine lv_aload_n zx zb dX11_status_33 rfl (lv_at hl 0 rfl) ?_
    refine g_get (v := .int V.2.1) XX hP 0 0 rfl rfl rfl iwX11 6 (by decide) fl_X11_303 rfl dX11_status_34 ?_
    exact fin _ _ V.2.1 V 37 _ dX11_status_37 (fun h => by cases h) ⟨(by simp [suR]), (by simp [suV])⟩ hP hD hS
  by_cases e1_2 : w = (2 : Int32)
  · subst e1_2
    refine lv_tableIn (off := 37) (tgt := 38) zx zb dX11_status_1 (by decide) (by decide) rfl (by decide) ?_
    refine lv_aload_n zx zb dX11_status_38 rfl (lv_at hl 0 rfl) ?_
    refine g_get (v := .int V.2.2) XX hP 0 0 rfl rfl rfl iwX11 7 (by decide) fl_X11_306 rfl dX11_status_39 ?_
    exact fin _ _ V.2.2 V 42 _ dX11_status_42 (fun h => by cases h) ⟨(by simp [suR]), (by simp [suV])⟩ hP hD hS
  refine lv_tableOut (tgt := 43) zx zb dX11_status_1 (by have z0 := sw_nx e1_0 (n := 0) rfl; have z1 := sw_nx e1_1 (n := 1) rfl; have z2 := sw_nx e1_2 (n := 2) rfl; first | exact Or.inl (by omega) | exact Or.inr (by omega) | omega) (by decide) ?_
  refine lv_aload_n zx zb dX11_status_43 rfl (lv_at hl 0 rfl) ?_
  refine lv_bipush (v := (-2)) zx zb dX11_status_44 (by decide) ?_
  refine lv_iconst (v := (-1)) zx zb dX11_status_46 (by decide) ?_
  refine call_Vi (As := [.int (-2), .int (-1)]) (rest := []) XX cv_X11_79 (c_X11_refused Γ l t s x V (-2) (-1) ) hP hD hS hA [0] (by decide) rfl (fun _ => rfl) 0 0 rfl rfl rfl rfl hl.1 rfl ⟨⟨by decide, by decide⟩, by decide, by decide⟩ (Nat.le_of_ble_eq_true rfl) dX11_status_47 (fun r_47 u H locs hw hP hD hS => ?_)
  obtain ⟨hw1, hw2⟩ := hw
  have hw1 := hw1.symm
  have hw2 := hw2.symm
  subst hw1
  subst hw2
  have hP : bP Γ [bTT Γ t s x (ttRef V (-2))] H := hP
  have hD : bD AA [bTT Γ t s x (ttRef V (-2))] := hD
  exact fin _ _ (-1) (ttRef V (-2)) 50 _ dX11_status_50 (fun h => by cases h) ⟨(by simp [suR, e1_0, e1_1, e1_2]), (by simp [suV, e1_0, e1_1, e1_2, ttRef_b])⟩ hP hD hS

set_option maxHeartbeats 4000000 in
set_option maxRecDepth 100000 in
theorem c_X11_tide (Γ : GG) (l : Launch) (t : Nat → Nat) (s : Nat → Nat) (x : Nat → Nat) (V : V3) (c : Nat → Nat) (k : Nat → Nat) (y : Nat → Nat) (p : Nat → Nat → Nat) (pc : Nat) (C : CoV) (a : Int32) (b : Int32) (w : Bool) (hdc : C.2.2.2.2.2.2.2.1 ≤ 6) : Ci Γ l yX11_tide cX11_tide 4 (some (.int)) 2 43 0 0 [.ref (t 0), .int a, .int b, .int (bI w)] [bTT Γ t s x V, bSt Γ s c y p pc, bCo Γ c k C] (fun (r : Int32) (u : V3 × Nat × CoV) => r = tiR C a b ∧ u = (toldV V (tiR C a b), toldP (tiR C a b) pc, tiC C a b w)) (fun (u : V3 × Nat × CoV) => [bTT Γ t s x u.1, bSt Γ s c y p u.2.1, bCo Γ c k u.2.2]) := by
  refine Ci.of (Or.inl rfl) (by decide) (Nat.le_of_ble_eq_true rfl) ?_
  intro pp ee ss mm bb me cd AA QQ XX hnm hA hP hD fin ls hl
  obtain ⟨zx, zb, hml, hown, hts, hK⟩ := id XX
  have hS : va_S AA ss.heap ss.heap [] := va_S.rf
  have hl : lv_has ls 4 [(0, .ref (t 0)), (1, .int a), (2, .int b), (3, .int (bI w))] := hl
  refine lv_iload_n zx zb dX11_tide_0 rfl (lv_at hl 1 rfl) ?_
  refine lv_iconst (v := nI 0) zx zb dX11_tide_1 (by decide) ?_
  refine lv_bipush (v := nI 7) zx zb dX11_tide_2 (by decide) ?_
  refine callR_Si (As := [.int a, .int (nI 0), .int (nI 7)]) (rest := []) XX cs_X11_75 (c_X11_within Γ l a 0 7 ) hP hD hS hA nil_mem nil_D rfl hl.1 rfl ⟨⟨by decide, by decide⟩, by decide, by decide⟩ (Nat.le_of_ble_eq_true rfl) dX11_tide_4 (fun r_4 H locs hw hP hS => ?_)
  have hw := hw.symm
  subst hw
  refine lv_if_eq (tgt := 18) zx zb dX11_tide_7 (by decide) (fun c_7 => ?_) (fun c_7 => ?_)
  · have c_7 : (wi a 0 7) = false := bI_0.mp c_7
    refine lv_aload_n zx zb dX11_tide_18 rfl (lv_at hl 0 rfl) ?_
    refine lv_bipush (v := (-2)) zx zb dX11_tide_19 (by decide) ?_
    refine lv_bipush (v := (-2)) zx zb dX11_tide_21 (by decide) ?_
    refine call_Vi (As := [.int (-2), .int (-2)]) (rest := []) XX cv_X11_79 (c_X11_refused Γ l t s x V (-2) (-2) ) hP hD hS hA [0] (by decide) rfl (fun _ => rfl) 0 0 rfl rfl rfl rfl hl.1 rfl ⟨⟨by decide, by decide⟩, by decide, by decide⟩ (Nat.le_of_ble_eq_true rfl) dX11_tide_23 (fun r_23 u H locs hw hP hD hS => ?_)
    obtain ⟨hw1, hw2⟩ := hw
    have hw1 := hw1.symm
    have hw2 := hw2.symm
    subst hw1
    subst hw2
    have hP : bP Γ [bTT Γ t s x (ttRef V (-2)), bSt Γ s c y p pc, bCo Γ c k C] H := hP
    have hD : bD AA [bTT Γ t s x (ttRef V (-2)), bSt Γ s c y p pc, bCo Γ c k C] := hD
    exact fin _ _ (-2) ((ttRef V (-2)), pc, C) 26 _ dX11_tide_26 (fun h => by cases h) ⟨(by simp [tiR, c_7]), (by simp [tiR, tiC, c_7]; exact ⟨rfl, rfl⟩)⟩ hP hD hS
  · have c_7 : (wi a 0 7) = true := bI_ne c_7
    refine lv_aload_n zx zb dX11_tide_10 rfl (lv_at hl 0 rfl) ?_
    refine lv_iload_n zx zb dX11_tide_11 rfl (lv_at hl 2 rfl) ?_
    refine call_Vi (As := [.int b]) (rest := []) XX cv_X11_159 (c_X11_isCell Γ l t s x V c k y p pc C b ) hP hD hS hA [0, 1, 2] (by decide) rfl (fun _ => rfl) 0 0 rfl rfl rfl rfl hl.1 rfl ⟨⟨by decide, by decide⟩, by decide, by decide⟩ (Nat.le_of_ble_eq_true rfl) dX11_tide_12 (fun r_12 u H locs hw hP hD hS => ?_)
    have hw := hw.symm
    subst hw
    have hP : bP Γ [bTT Γ t s x V, bSt Γ s c y p pc, bCo Γ c k C] H := hP
    have hD : bD AA [bTT Γ t s x V, bSt Γ s c y p pc, bCo Γ c k C] := hD
    refine lv_if_ne (tgt := 27) zx zb dX11_tide_15 (by decide) (fun c_15 => ?_) (fun c_15 => ?_)
    · have c_15 : (stCell C b) = true := bI_ne c_15
      refine lv_aload_n zx zb dX11_tide_27 rfl (lv_at hl 0 rfl) ?_
      refine lv_aload_n zx zb dX11_tide_28 rfl (lv_at hl 0 rfl) ?_
      refine g_get (v := .ref (s 0)) XX hP 0 0 rfl rfl rfl iwX11 0 (by decide) fl_X11_30 rfl dX11_tide_29 ?_
      refine g_get (v := .ref (c 0)) XX hP 1 0 rfl rfl rfl iwX8 0 (by decide) fl_X11_100 rfl dX11_tide_32 ?_
      refine lv_iload_n zx zb dX11_tide_35 rfl (lv_at hl 1 rfl) ?_
      refine lv_iload_n zx zb dX11_tide_36 rfl (lv_at hl 2 rfl) ?_
      refine lv_iload_n zx zb dX11_tide_37 rfl (lv_at hl 3 rfl) ?_
      refine call_Vi (As := [.int a, .int b, .int (bI w)]) (rest := [.ref (t 0)]) XX cv_X11_255 (c_X2_addTide Γ l c k C a b w (hdc)) hP hD hS hA [2] (by decide) rfl (fun _ => rfl) 2 0 rfl rfl rfl rfl hl.1 rfl ⟨⟨by decide, by decide⟩, by decide, by decide⟩ (Nat.le_of_ble_eq_true rfl) dX11_tide_38 (fun r_38 u H locs hw hP hD hS => ?_)
      obtain ⟨hw1, hw2⟩ := hw
      have hw1 := hw1.symm
      have hw2 := hw2.symm
      subst hw1
      subst hw2
      have hP : bP Γ [bTT Γ t s x V, bSt Γ s c y p pc, bCo Γ c k (coTide C a b w)] H := hP
      have hD : bD AA [bTT Γ t s x V, bSt Γ s c y p pc, bCo Γ c k (coTide C a b w)] := hD
      refine call_Vi (As := [.int (coTideR C)]) (rest := []) XX cv_X11_58 (c_X11_told Γ l t s x V c y p pc (coTideR C) ) hP hD hS hA [0, 1] (by decide) rfl (fun _ => rfl) 0 0 rfl rfl rfl rfl hl.1 rfl ⟨⟨by decide, by decide⟩, by decide, by decide⟩ (Nat.le_of_ble_eq_true rfl) dX11_tide_41 (fun r_41 u H locs hw hP hD hS => ?_)
      obtain ⟨hw1, hw2⟩ := hw
      have hw1 := hw1.symm
      have hw2 := hw2.symm
      subst hw1
      subst hw2
      have hP : bP Γ [bTT Γ t s x ((toldV V (coTideR C), toldP (coTideR C) pc).1), bSt Γ s c y p ((toldV V (coTideR C), toldP (coTideR C) pc).2), bCo Γ c k (coTide C a b w)] H := hP
      have hD : bD AA [bTT Γ t s x ((toldV V (coTideR C), toldP (coTideR C) pc).1), bSt Γ s c y p ((toldV V (coTideR C), toldP (coTideR C) pc).2), bCo Γ c k (coTide C a b w)] := hD
      exact fin _ _ (coTideR C) ((toldV V (coTideR C), toldP (coTideR C) pc).1, (toldV V (coTideR C), toldP (coTideR C) pc).2, (coTide C a b w)) 44 _ dX11_tide_44 (fun h => by cases h) ⟨(by simp [tiR, c_7, c_15]), (by simp [tiR, tiC, c_7, c_15])⟩ hP hD hS
    · have c_15 : (stCell C b) = false := bI_0.mp c_15
      refine lv_aload_n zx zb dX11_tide_18 rfl (lv_at hl 0 rfl) ?_
      refine lv_bipush (v := (-2)) zx zb dX11_tide_19 (by decide) ?_
      refine lv_bipush (v := (-2)) zx zb dX11_tide_21 (by decide) ?_
      refine call_Vi (As := [.int (-2), .int (-2)]) (rest := []) XX cv_X11_79 (c_X11_refused Γ l t s x V (-2) (-2) ) hP hD hS hA [0] (by decide) rfl (fun _ => rfl) 0 0 rfl rfl rfl rfl hl.1 rfl ⟨⟨by decide, by decide⟩, by decide, by decide⟩ (Nat.le_of_ble_eq_true rfl) dX11_tide_23 (fun r_23 u H locs hw hP hD hS => ?_)
      obtain ⟨hw1, hw2⟩ := hw
      have hw1 := hw1.symm
      have hw2 := hw2.symm
      subst hw1
      subst hw2
      have hP : bP Γ [bTT Γ t s x (ttRef V (-2)), bSt Γ s c y p pc, bCo Γ c k C] H := hP
      have hD : bD AA [bTT Γ t s x (ttRef V (-2)), bSt Γ s c y p pc, bCo Γ c k C] := hD
      exact fin _ _ (-2) ((ttRef V (-2)), pc, C) 26 _ dX11_tide_26 (fun h => by cases h) ⟨(by simp [tiR, c_7, c_15]), (by simp [tiR, tiC, c_7, c_15]; exact ⟨rfl, rfl⟩)⟩ hP hD hS

set_option maxHeartbeats 4000000 in
set_option maxRecDepth 100000 in
theorem c_X11_burn (Γ : GG) (l : Launch) (t : Nat → Nat) (s : Nat → Nat) (x : Nat → Nat) (V : V3) (c : Nat → Nat) (k : Nat → Nat) (y : Nat → Nat) (p : Nat → Nat → Nat) (pc : Nat) (C : CoV) (Y : YrV) (w : Int32)  : Ci Γ l yX11_burn cX11_burn 2 (some (.int)) 2 43 0 0 [.ref (t 0), .int w] [bTT Γ t s x V, bSt Γ s c y p pc, bCo Γ c k C, bYr Γ y Y] (fun (r : Int32) (u : V3 × Nat × CoV × YrV) => r = buR C w ∧ u = (toldV V (buR C w), toldP (buR C w) pc, buC C w, if wi w 0 1 = true then buY Y w else Y)) (fun (u : V3 × Nat × CoV × YrV) => [bTT Γ t s x u.1, bSt Γ s c y p u.2.1, bCo Γ c k u.2.2.1, bYr Γ y u.2.2.2]) := by
  refine Ci.of (Or.inl rfl) (by decide) (Nat.le_of_ble_eq_true rfl) ?_
  intro pp ee ss mm bb me cd AA QQ XX hnm hA hP hD fin ls hl
  obtain ⟨zx, zb, hml, hown, hts, hK⟩ := id XX
  have hS : va_S AA ss.heap ss.heap [] := va_S.rf
  have hl : lv_has ls 2 [(0, .ref (t 0)), (1, .int w)] := hl
  refine lv_iload_n zx zb dX11_burn_0 rfl (lv_at hl 1 rfl) ?_
  refine lv_iconst (v := nI 0) zx zb dX11_burn_1 (by decide) ?_
  refine lv_iconst (v := nI 1) zx zb dX11_burn_2 (by decide) ?_
  refine callR_Si (As := [.int w, .int (nI 0), .int (nI 1)]) (rest := []) XX cs_X11_75 (c_X11_within Γ l w 0 1 ) hP hD hS hA nil_mem nil_D rfl hl.1 rfl ⟨⟨by decide, by decide⟩, by decide, by decide⟩ (Nat.le_of_ble_eq_true rfl) dX11_burn_3 (fun r_3 H locs hw hP hS => ?_)
  have hw := hw.symm
  subst hw
  refine lv_if_ne (tgt := 18) zx zb dX11_burn_6 (by decide) (fun c_6 => ?_) (fun c_6 => ?_)
  · have c_6 : (wi w 0 1) = true := bI_ne c_6
    refine lv_aload_n zx zb dX11_burn_18 rfl (lv_at hl 0 rfl) ?_
    refine lv_iload_n zx zb dX11_burn_19 rfl (lv_at hl 1 rfl) ?_
    refine lv_if_ne (tgt := 33) zx zb dX11_burn_20 (by decide) (fun c_20 => ?_) (fun c_20 => ?_)
    · have c_20 : ¬ (w = (0 : Int32)) := c_20
      refine lv_aload_n zx zb dX11_burn_33 rfl (lv_at hl 0 rfl) ?_
      refine g_get (v := .ref (s 0)) XX hP 0 0 rfl rfl rfl iwX11 0 (by decide) fl_X11_30 rfl dX11_burn_34 ?_
      refine g_get (v := .ref (c 0)) XX hP 1 0 rfl rfl rfl iwX8 0 (by decide) fl_X11_100 rfl dX11_burn_37 ?_
      refine call_Vi (As := []) (rest := [.ref (t 0)]) XX cv_X11_290 (c_X2_dropTides Γ l c k C ) hP hD hS hA [2] (by decide) rfl (fun _ => rfl) 2 0 rfl rfl rfl rfl hl.1 rfl ⟨⟨by decide, by decide⟩, by decide, by decide⟩ (Nat.le_of_ble_eq_true rfl) dX11_burn_40 (fun r_40 u H locs hw hP hD hS => ?_)
      obtain ⟨hw1, hw2⟩ := hw
      have hw1 := hw1.symm
      have hw2 := hw2.symm
      subst hw1
      subst hw2
      have hP : bP Γ [bTT Γ t s x V, bSt Γ s c y p pc, bCo Γ c k (coNoTides C), bYr Γ y Y] H := hP
      have hD : bD AA [bTT Γ t s x V, bSt Γ s c y p pc, bCo Γ c k (coNoTides C), bYr Γ y Y] := hD
      refine call_Vi (As := [.int (nI (C.2.2.2.2.2.2.2.1))]) (rest := []) XX cv_X11_58 (c_X11_told Γ l t s x V c y p pc (nI (C.2.2.2.2.2.2.2.1)) ) hP hD hS hA [0, 1] (by decide) rfl (fun _ => rfl) 0 0 rfl rfl rfl rfl hl.1 rfl ⟨⟨by decide, by decide⟩, by decide, by decide⟩ (Nat.le_of_ble_eq_true rfl) dX11_burn_43 (fun r_43 u H locs hw hP hD hS => ?_)
      obtain ⟨hw1, hw2⟩ := hw
      have hw1 := hw1.symm
      have hw2 := hw2.symm
      subst hw1
      subst hw2
      have hP : bP Γ [bTT Γ t s x ((toldV V (nI (C.2.2.2.2.2.2.2.1)), toldP (nI (C.2.2.2.2.2.2.2.1)) pc).1), bSt Γ s c y p ((toldV V (nI (C.2.2.2.2.2.2.2.1)), toldP (nI (C.2.2.2.2.2.2.2.1)) pc).2), bCo Γ c k (coNoTides C), bYr Γ y Y] H := hP
      have hD : bD AA [bTT Γ t s x ((toldV V (nI (C.2.2.2.2.2.2.2.1)), toldP (nI (C.2.2.2.2.2.2.2.1)) pc).1), bSt Γ s c y p ((toldV V (nI (C.2.2.2.2.2.2.2.1)), toldP (nI (C.2.2.2.2.2.2.2.1)) pc).2), bCo Γ c k (coNoTides C), bYr Γ y Y] := hD
      exact fin _ _ (nI (C.2.2.2.2.2.2.2.1)) ((toldV V (nI (C.2.2.2.2.2.2.2.1)), toldP (nI (C.2.2.2.2.2.2.2.1)) pc).1, (toldV V (nI (C.2.2.2.2.2.2.2.1)), toldP (nI (C.2.2.2.2.2.2.2.1)) pc).2, (coNoTides C), Y) 46 _ dX11_burn_46 (fun h => by cases h) ⟨(by first | (simp only [buR, if_pos c_6, if_pos c_20]; done) | (simp only [buR, if_pos c_6, if_neg c_20]; done)), (by first | (simp only [buR, buC, buY, if_pos c_6, if_pos c_20]; done) | (simp only [buR, buC, buY, if_pos c_6, if_neg c_20]; done))⟩ hP hD hS
    · have c_20 : w = (0 : Int32) := c_20
      refine lv_aload_n zx zb dX11_burn_23 rfl (lv_at hl 0 rfl) ?_
      refine g_get (v := .ref (s 0)) XX hP 0 0 rfl rfl rfl iwX11 0 (by decide) fl_X11_30 rfl dX11_burn_24 ?_
      refine call_Vi (As := []) (rest := [.ref (t 0)]) XX cv_X11_287 (c_X8_dropTreaties Γ l s c k y p pc C Y ) hP hD hS hA [1, 2, 3] (by decide) rfl (fun _ => rfl) 1 0 rfl rfl rfl rfl hl.1 rfl ⟨⟨by decide, by decide⟩, by decide, by decide⟩ (Nat.le_of_ble_eq_true rfl) dX11_burn_27 (fun r_27 u H locs hw hP hD hS => ?_)
      obtain ⟨hw1, hw2⟩ := hw
      have hw1 := hw1.symm
      have hw2 := hw2.symm
      subst hw1
      subst hw2
      have hP : bP Γ [bTT Γ t s x V, bSt Γ s c y p pc, bCo Γ c k ((coNoTr C, yrNoBr Y).1), bYr Γ y ((coNoTr C, yrNoBr Y).2)] H := hP
      have hD : bD AA [bTT Γ t s x V, bSt Γ s c y p pc, bCo Γ c k ((coNoTr C, yrNoBr Y).1), bYr Γ y ((coNoTr C, yrNoBr Y).2)] := hD
      refine lv_goto (tgt := 43) zx zb dX11_burn_30 (by decide) ?_
      refine call_Vi (As := [.int (nI (C.2.2.2.2.2.2.1))]) (rest := []) XX cv_X11_58 (c_X11_told Γ l t s x V c y p pc (nI (C.2.2.2.2.2.2.1)) ) hP hD hS hA [0, 1] (by decide) rfl (fun _ => rfl) 0 0 rfl rfl rfl rfl hl.1 rfl ⟨⟨by decide, by decide⟩, by decide, by decide⟩ (Nat.le_of_ble_eq_true rfl) dX11_burn_43 (fun r_43 u H locs hw hP hD hS => ?_)
      obtain ⟨hw1, hw2⟩ := hw
      have hw1 := hw1.symm
      have hw2 := hw2.symm
      subst hw1
      subst hw2
      have hP : bP Γ [bTT Γ t s x ((toldV V (nI (C.2.2.2.2.2.2.1)), toldP (nI (C.2.2.2.2.2.2.1)) pc).1), bSt Γ s c y p ((toldV V (nI (C.2.2.2.2.2.2.1)), toldP (nI (C.2.2.2.2.2.2.1)) pc).2), bCo Γ c k ((coNoTr C, yrNoBr Y).1), bYr Γ y ((coNoTr C, yrNoBr Y).2)] H := hP
      have hD : bD AA [bTT Γ t s x ((toldV V (nI (C.2.2.2.2.2.2.1)), toldP (nI (C.2.2.2.2.2.2.1)) pc).1), bSt Γ s c y p ((toldV V (nI (C.2.2.2.2.2.2.1)), toldP (nI (C.2.2.2.2.2.2.1)) pc).2), bCo Γ c k ((coNoTr C, yrNoBr Y).1), bYr Γ y ((coNoTr C, yrNoBr Y).2)] := hD
      exact fin _ _ (nI (C.2.2.2.2.2.2.1)) ((toldV V (nI (C.2.2.2.2.2.2.1)), toldP (nI (C.2.2.2.2.2.2.1)) pc).1, (toldV V (nI (C.2.2.2.2.2.2.1)), toldP (nI (C.2.2.2.2.2.2.1)) pc).2, (coNoTr C, yrNoBr Y).1, (coNoTr C, yrNoBr Y).2) 46 _ dX11_burn_46 (fun h => by cases h) ⟨(by first | (simp only [buR, if_pos c_6, if_pos c_20]; done) | (simp only [buR, if_pos c_6, if_neg c_20]; done)), (by first | (simp only [buR, buC, buY, if_pos c_6, if_pos c_20]; done) | (simp only [buR, buC, buY, if_pos c_6, if_neg c_20]; done))⟩ hP hD hS
  · have c_6 : (wi w 0 1) = false := bI_0.mp c_6
    refine lv_aload_n zx zb dX11_burn_9 rfl (lv_at hl 0 rfl) ?_
    refine lv_bipush (v := (-2)) zx zb dX11_burn_10 (by decide) ?_
    refine lv_bipush (v := (-2)) zx zb dX11_burn_12 (by decide) ?_
    refine call_Vi (As := [.int (-2), .int (-2)]) (rest := []) XX cv_X11_79 (c_X11_refused Γ l t s x V (-2) (-2) ) hP hD hS hA [0] (by decide) rfl (fun _ => rfl) 0 0 rfl rfl rfl rfl hl.1 rfl ⟨⟨by decide, by decide⟩, by decide, by decide⟩ (Nat.le_of_ble_eq_true rfl) dX11_burn_14 (fun r_14 u H locs hw hP hD hS => ?_)
    obtain ⟨hw1, hw2⟩ := hw
    have hw1 := hw1.symm
    have hw2 := hw2.symm
    subst hw1
    subst hw2
    have hP : bP Γ [bTT Γ t s x (ttRef V (-2)), bSt Γ s c y p pc, bCo Γ c k C, bYr Γ y Y] H := hP
    have hD : bD AA [bTT Γ t s x (ttRef V (-2)), bSt Γ s c y p pc, bCo Γ c k C, bYr Γ y Y] := hD
    exact fin _ _ (-2) ((ttRef V (-2)), pc, C, Y) 17 _ dX11_burn_17 (fun h => by cases h) ⟨(by simp [buR, c_6]), (by simp [buR, buC, c_6]; exact ⟨rfl, rfl⟩)⟩ hP hD hS

set_option maxHeartbeats 4000000 in
set_option maxRecDepth 100000 in
theorem c_X11_runAhead (Γ : GG) (l : Launch) (t : Nat → Nat) (s : Nat → Nat) (x : Nat → Nat) (V : V3) (c : Nat → Nat) (k : Nat → Nat) (C : CoV) (tr : Nat → TrV) (d : Nat → Nat) (z : Nat → Nat) (p2 : Nat → Nat → Nat) (pc2 : Nat) (Z : YrV) (hn : C.1 ≤ 8) (htc : C.2.2.2.2.2.2.1 ≤ 6) (hkd : ∀ i, i < 6 → (tr i).1 < 6) : Ci Γ l yX11_runAhead cX11_runAhead 2 (some (.int)) 4 93 0 0 [.ref (t 0), .ref (c 0)] [bTT Γ t s x V, bSt Γ x d z p2 pc2, bCo Γ c k C, bTs Γ c k tr, bKd Γ k, bYr Γ z Z] (fun (r : Int32) (u : YrV) => r = coNextF C tr Z ∧ u = coNext C tr Z) (fun (u : YrV) => [bTT Γ t s x V, bSt Γ x d z p2 pc2, bCo Γ c k C, bTs Γ c k tr, bKd Γ k, bYr Γ z u]) := by
  refine Ci.of (Or.inl rfl) (by decide) (Nat.le_of_ble_eq_true rfl) ?_
  intro pp ee ss mm bb me cd AA QQ XX hnm hA hP hD fin ls hl
  obtain ⟨zx, zb, hml, hown, hts, hK⟩ := id XX
  have hS : va_S AA ss.heap ss.heap [] := va_S.rf
  have hl : lv_has ls 2 [(0, .ref (t 0)), (1, .ref (c 0))] := hl
  refine lv_aload_n zx zb dX11_runAhead_0 rfl (lv_at hl 1 rfl) ?_
  refine lv_aload_n zx zb dX11_runAhead_1 rfl (lv_at hl 0 rfl) ?_
  refine g_get (v := .ref (x 0)) XX hP 0 0 rfl rfl rfl iwX11 1 (by decide) fl_X11_36 rfl dX11_runAhead_2 ?_
  refine g_get (v := .ref (z 0)) XX hP 1 0 rfl rfl rfl iwX8 1 (by decide) fl_X11_82 rfl dX11_runAhead_5 ?_
  refine lv_aload_n zx zb dX11_runAhead_8 rfl (lv_at hl 1 rfl) ?_
  refine lv_aload_n zx zb dX11_runAhead_9 rfl (lv_at hl 0 rfl) ?_
  refine g_get (v := .ref (x 0)) XX hP 0 0 rfl rfl rfl iwX11 1 (by decide) fl_X11_36 rfl dX11_runAhead_10 ?_
  refine g_get (v := .ref (z 0)) XX hP 1 0 rfl rfl rfl iwX8 1 (by decide) fl_X11_82 rfl dX11_runAhead_13 ?_
  refine g_get (v := .int Z.1) XX hP 5 0 rfl rfl rfl iwX10 0 (by decide) fl_X11_110 rfl dX11_runAhead_16 ?_
  refine call_Vi (As := [.int Z.1]) (rest := [.ref (z 0), .ref (c 0)]) XX cv_X11_148 (c_X2_stormOf Γ l c k C Z.1 ) hP hD hS hA [2] (by decide) rfl (fun _ => rfl) 2 0 rfl rfl rfl rfl hl.1 rfl ⟨⟨by decide, by decide⟩, by decide, by decide⟩ (Nat.le_of_ble_eq_true rfl) dX11_runAhead_19 (fun r_19 u H locs hw hP hD hS => ?_)
  have hw := hw.symm
  subst hw
  have hP : bP Γ [bTT Γ t s x V, bSt Γ x d z p2 pc2, bCo Γ c k C, bTs Γ c k tr, bKd Γ k, bYr Γ z Z] H := hP
  have hD : bD AA [bTT Γ t s x V, bSt Γ x d z p2 pc2, bCo Γ c k C, bTs Γ c k tr, bKd Γ k, bYr Γ z Z] := hD
  refine call_Vi (As := [.ref (z 0), .int (coStorm C Z.1)]) (rest := []) XX cv_X11_151 (c_X2_runYear Γ l c k C tr z Z (coStorm C Z.1) (hn) (htc) (hkd)) hP hD hS hA [2, 3, 4, 5] (by decide) rfl (fun _ => rfl) 2 0 rfl rfl rfl rfl hl.1 rfl ⟨⟨by decide, by decide⟩, by decide, by decide⟩ (Nat.le_of_ble_eq_true rfl) dX11_runAhead_22 (fun r_22 u H locs hw hP hD hS => ?_)
  obtain ⟨hw1, hw2⟩ := hw
  have hw1 := hw1.symm
  have hw2 := hw2.symm
  subst hw1
  subst hw2
  have hP : bP Γ [bTT Γ t s x V, bSt Γ x d z p2 pc2, bCo Γ c k C, bTs Γ c k tr, bKd Γ k, bYr Γ z (coYear C tr Z (coStorm C Z.1))] H := hP
  have hD : bD AA [bTT Γ t s x V, bSt Γ x d z p2 pc2, bCo Γ c k C, bTs Γ c k tr, bKd Γ k, bYr Γ z (coYear C tr Z (coStorm C Z.1))] := hD
  exact fin _ _ (coFl C tr Z (coStorm C Z.1)) (coYear C tr Z (coStorm C Z.1)) 25 _ dX11_runAhead_25 (fun h => by cases h) ⟨(rfl), (rfl)⟩ hP hD hS

set_option maxHeartbeats 4000000 in
set_option maxRecDepth 100000 in
theorem c_X11_outcome (Γ : GG) (l : Launch) (t : Nat → Nat) (s : Nat → Nat) (x : Nat → Nat) (V : V3) (c : Nat → Nat) (k : Nat → Nat) (y : Nat → Nat) (p : Nat → Nat → Nat) (pc : Nat) (C : CoV) (d : Nat → Nat) (z : Nat → Nat) (p2 : Nat → Nat → Nat) (pc2 : Nat) (Z : YrV) (f : Int32) (w : Int32) (hn : C.1 ≤ 8) : Ci Γ l yX11_outcome cX11_outcome 3 (some (.int)) 2 43 0 0 [.ref (t 0), .int f, .int w] [bTT Γ t s x V, bSt Γ s c y p pc, bCo Γ c k C, bSt Γ x d z p2 pc2, bYr Γ z Z] (fun (r : Int32) (u : Unit) => r = outV C Z f w) (fun (u : Unit) => [bTT Γ t s x V, bSt Γ s c y p pc, bCo Γ c k C, bSt Γ x d z p2 pc2, bYr Γ z Z]) := by
  refine Ci.of (Or.inl rfl) (by decide) (Nat.le_of_ble_eq_true rfl) ?_
  intro pp ee ss mm bb me cd AA QQ XX hnm hA hP hD fin ls hl
  obtain ⟨zx, zb, hml, hown, hts, hK⟩ := id XX
  have hS : va_S AA ss.heap ss.heap [] := va_S.rf
  have hl : lv_has ls 3 [(0, .ref (t 0)), (1, .int f), (2, .int w)] := hl
  refine lv_iload_n zx zb dX11_outcome_0 rfl (lv_at hl 2 rfl) ?_
  by_cases e1_0 : w = (0 : Int32)
  · subst e1_0
    refine lv_tableIn (off := 31) (tgt := 32) zx zb dX11_outcome_1 (by decide) (by decide) rfl (by decide) ?_
    refine lv_aload_n zx zb dX11_outcome_32 rfl (lv_at hl 0 rfl) ?_
    refine g_get (v := .ref (x 0)) XX hP 0 0 rfl rfl rfl iwX11 1 (by decide) fl_X11_36 rfl dX11_outcome_33 ?_
    refine g_get (v := .ref (z 0)) XX hP 3 0 rfl rfl rfl iwX8 1 (by decide) fl_X11_82 rfl dX11_outcome_36 ?_
    refine g_get (v := .int Z.2.1) XX hP 4 0 rfl rfl rfl iwX10 1 (by decide) fl_X11_86 rfl dX11_outcome_39 ?_
    exact fin _ _ Z.2.1 () 42 _ dX11_outcome_42 (fun h => by cases h) (by simp [outV]) hP hD hS
  by_cases e1_1 : w = (1 : Int32)
  · subst e1_1
    refine lv_tableIn (off := 42) (tgt := 43) zx zb dX11_outcome_1 (by decide) (by decide) rfl (by decide) ?_
    refine lv_iload_n zx zb dX11_outcome_43 rfl (lv_at hl 1 rfl) ?_
    exact fin _ _ f () 44 _ dX11_outcome_44 (fun h => by cases h) (by simp [outV]) hP hD hS
  by_cases e1_2 : w = (2 : Int32)
  · subst e1_2
    refine lv_tableIn (off := 44) (tgt := 45) zx zb dX11_outcome_1 (by decide) (by decide) rfl (by decide) ?_
    refine lv_aload_n zx zb dX11_outcome_45 rfl (lv_at hl 0 rfl) ?_
    refine g_get (v := .ref (x 0)) XX hP 0 0 rfl rfl rfl iwX11 1 (by decide) fl_X11_36 rfl dX11_outcome_46 ?_
    refine g_get (v := .ref (z 0)) XX hP 3 0 rfl rfl rfl iwX8 1 (by decide) fl_X11_82 rfl dX11_outcome_49 ?_
    refine call_Vi (As := []) (rest := []) XX cv_X11_213 (c_X10_lost Γ l z Z ) hP hD hS hA [4] (by decide) rfl (fun _ => rfl) 4 0 rfl rfl rfl rfl hl.1 rfl ⟨⟨by decide, by decide⟩, by decide, by decide⟩ (Nat.le_of_ble_eq_true rfl) dX11_outcome_52 (fun r_52 u H locs hw hP hD hS => ?_)
    have hw := hw.symm
    subst hw
    have hP : bP Γ [bTT Γ t s x V, bSt Γ s c y p pc, bCo Γ c k C, bSt Γ x d z p2 pc2, bYr Γ z Z] H := hP
    have hD : bD AA [bTT Γ t s x V, bSt Γ s c y p pc, bCo Γ c k C, bSt Γ x d z p2 pc2, bYr Γ z Z] := hD
    exact fin _ _ (yrLostB Z 8) () 55 _ dX11_outcome_55 (fun h => by cases h) (by simp [outV]) hP hD hS
  by_cases e1_3 : w = (3 : Int32)
  · subst e1_3
    refine lv_tableIn (off := 55) (tgt := 56) zx zb dX11_outcome_1 (by decide) (by decide) rfl (by decide) ?_
    refine lv_aload_n zx zb dX11_outcome_56 rfl (lv_at hl 0 rfl) ?_
    refine g_get (v := .ref (s 0)) XX hP 0 0 rfl rfl rfl iwX11 0 (by decide) fl_X11_30 rfl dX11_outcome_57 ?_
    refine g_get (v := .ref (c 0)) XX hP 1 0 rfl rfl rfl iwX8 0 (by decide) fl_X11_100 rfl dX11_outcome_60 ?_
    refine lv_aload_n zx zb dX11_outcome_63 rfl (lv_at hl 0 rfl) ?_
    refine g_get (v := .ref (x 0)) XX hP 0 0 rfl rfl rfl iwX11 1 (by decide) fl_X11_36 rfl dX11_outcome_64 ?_
    refine g_get (v := .ref (z 0)) XX hP 3 0 rfl rfl rfl iwX8 1 (by decide) fl_X11_82 rfl dX11_outcome_67 ?_
    refine call_Vi (As := []) (rest := [.ref (c 0)]) XX cv_X11_213 (c_X10_lost Γ l z Z ) hP hD hS hA [4] (by decide) rfl (fun _ => rfl) 4 0 rfl rfl rfl rfl hl.1 rfl ⟨⟨by decide, by decide⟩, by decide, by decide⟩ (Nat.le_of_ble_eq_true rfl) dX11_outcome_70 (fun r_70 u H locs hw hP hD hS => ?_)
    have hw := hw.symm
    subst hw
    have hP : bP Γ [bTT Γ t s x V, bSt Γ s c y p pc, bCo Γ c k C, bSt Γ x d z p2 pc2, bYr Γ z Z] H := hP
    have hD : bD AA [bTT Γ t s x V, bSt Γ s c y p pc, bCo Γ c k C, bSt Γ x d z p2 pc2, bYr Γ z Z] := hD
    refine lv_iconst (v := (-1)) zx zb dX11_outcome_73 (by decide) ?_
    refine lv_ixor zx zb dX11_outcome_74 ?_
    refine call_Vi (As := [.int ((yrLostB Z 8) ^^^ (-1))]) (rest := []) XX cv_X11_342 (c_X2_worthOfAll Γ l c k C ((yrLostB Z 8) ^^^ (-1)) (hn)) hP hD hS hA [2] (by decide) rfl (fun _ => rfl) 2 0 rfl rfl rfl rfl hl.1 rfl ⟨⟨by decide, by decide⟩, by decide, by decide⟩ (Nat.le_of_ble_eq_true rfl) dX11_outcome_75 (fun r_75 u H locs hw hP hD hS => ?_)
    have hw := hw.symm
    subst hw
    have hP : bP Γ [bTT Γ t s x V, bSt Γ s c y p pc, bCo Γ c k C, bSt Γ x d z p2 pc2, bYr Γ z Z] H := hP
    have hD : bD AA [bTT Γ t s x V, bSt Γ s c y p pc, bCo Γ c k C, bSt Γ x d z p2 pc2, bYr Γ z Z] := hD
    exact fin _ _ (coWorth C ((yrLostB Z 8) ^^^ (-1)) C.1) () 78 _ dX11_outcome_78 (fun h => by cases h) (by simp [outV]) hP hD hS
  refine lv_tableOut (tgt := 79) zx zb dX11_outcome_1 (by have z0 := sw_nx e1_0 (n := 0) rfl; have z1 := sw_nx e1_1 (n := 1) rfl; have z2 := sw_nx e1_2 (n := 2) rfl; have z3 := sw_nx e1_3 (n := 3) rfl; first | exact Or.inl (by omega) | exact Or.inr (by omega) | omega) (by decide) ?_
  refine lv_aload_n zx zb dX11_outcome_79 rfl (lv_at hl 0 rfl) ?_
  refine g_get (v := .ref (x 0)) XX hP 0 0 rfl rfl rfl iwX11 1 (by decide) fl_X11_36 rfl dX11_outcome_80 ?_
  refine g_get (v := .ref (z 0)) XX hP 3 0 rfl rfl rfl iwX8 1 (by decide) fl_X11_82 rfl dX11_outcome_83 ?_
  refine g_get (v := .int Z.2.2.1) XX hP 4 0 rfl rfl rfl iwX10 2 (by decide) fl_X11_345 rfl dX11_outcome_86 ?_
  exact fin _ _ Z.2.2.1 () 89 _ dX11_outcome_89 (fun h => by cases h) (by simp [outV, e1_0, e1_1, e1_2, e1_3]) hP hD hS

set_option maxHeartbeats 4000000 in
set_option maxRecDepth 100000 in
theorem c_X11_then (Γ : GG) (l : Launch) (t : Nat → Nat) (s : Nat → Nat) (x : Nat → Nat) (V : V3) (c : Nat → Nat) (k : Nat → Nat) (y : Nat → Nat) (p : Nat → Nat → Nat) (pc : Nat) (C : CoV) (tr : Nat → TrV) (Y : YrV) (d : Nat → Nat) (z : Nat → Nat) (p2 : Nat → Nat → Nat) (pc2 : Nat) (Z : YrV) (a : Int32) (w : Int32) (hn : C.1 ≤ 8) (htc : C.2.2.2.2.2.2.1 ≤ 6) (hkd : ∀ i, i < 6 → (tr i).1 < 6) : Ci Γ l yX11_then cX11_then 5 (some (.int)) 5 114 0 0 [.ref (t 0), .int a, .int w] [bTT Γ t s x V, bSt Γ s c y p pc, bCo Γ c k C, bTs Γ c k tr, bKd Γ k, bYr Γ y Y, bSt Γ x d z p2 pc2, bYr Γ z Z] (fun (r : Int32) (u : V3 × YrV) => r = thR C tr Y a w ∧ u.1 = stV V (thOk a w)) (fun (u : V3 × YrV) => [bTT Γ t s x u.1, bSt Γ s c y p pc, bCo Γ c k C, bTs Γ c k tr, bKd Γ k, bYr Γ y Y, bSt Γ x d z p2 pc2, bYr Γ z u.2]) := by
  refine Ci.of (Or.inl rfl) (by decide) (Nat.le_of_ble_eq_true rfl) ?_
  intro pp ee ss mm bb me cd AA QQ XX hnm hA hP hD fin ls hl
  obtain ⟨zx, zb, hml, hown, hts, hK⟩ := id XX
  have hS : va_S AA ss.heap ss.heap [] := va_S.rf
  have hl : lv_has ls 5 [(0, .ref (t 0)), (1, .int a), (2, .int w)] := hl
  refine lv_iload_n zx zb dX11_then_0 rfl (lv_at hl 1 rfl) ?_
  refine lv_iconst (v := nI 0) zx zb dX11_then_1 (by decide) ?_
  refine lv_bipush (v := nI 30) zx zb dX11_then_2 (by decide) ?_
  refine callR_Si (As := [.int a, .int (nI 0), .int (nI 30)]) (rest := []) XX cs_X11_75 (c_X11_within Γ l a 0 30 ) hP hD hS hA nil_mem nil_D rfl hl.1 rfl ⟨⟨by decide, by decide⟩, by decide, by decide⟩ (Nat.le_of_ble_eq_true rfl) dX11_then_4 (fun r_4 H locs hw hP hS => ?_)
  have hw := hw.symm
  subst hw
  refine lv_if_eq (tgt := 19) zx zb dX11_then_7 (by decide) (fun c_7 => ?_) (fun c_7 => ?_)
  · have c_7 : (wi a 0 30) = false := bI_0.mp c_7
    refine lv_aload_n zx zb dX11_then_19 rfl (lv_at hl 0 rfl) ?_
    refine lv_bipush (v := (-2)) zx zb dX11_then_20 (by decide) ?_
    refine lv_bipush (v := (-2)) zx zb dX11_then_22 (by decide) ?_
    refine call_Vi (As := [.int (-2), .int (-2)]) (rest := []) XX cv_X11_79 (c_X11_refused Γ l t s x V (-2) (-2) ) hP hD hS hA [0] (by decide) rfl (fun _ => rfl) 0 0 rfl rfl rfl rfl hl.1 rfl ⟨⟨by decide, by decide⟩, by decide, by decide⟩ (Nat.le_of_ble_eq_true rfl) dX11_then_24 (fun r_24 u H locs hw hP hD hS => ?_)
    obtain ⟨hw1, hw2⟩ := hw
    have hw1 := hw1.symm
    have hw2 := hw2.symm
    subst hw1
    subst hw2
    have hP : bP Γ [bTT Γ t s x (ttRef V (-2)), bSt Γ s c y p pc, bCo Γ c k C, bTs Γ c k tr, bKd Γ k, bYr Γ y Y, bSt Γ x d z p2 pc2, bYr Γ z Z] H := hP
    have hD : bD AA [bTT Γ t s x (ttRef V (-2)), bSt Γ s c y p pc, bCo Γ c k C, bTs Γ c k tr, bKd Γ k, bYr Γ y Y, bSt Γ x d z p2 pc2, bYr Γ z Z] := hD
    exact fin _ _ (-2) ((ttRef V (-2)), Z) 27 _ dX11_then_27 (fun h => by cases h) (⟨by simp [thR, thOk, c_7], by simp only [stV, thOk, c_7, ttRef_b, Bool.false_and, Bool.and_false]; rfl⟩) hP hD hS
  · have c_7 : (wi a 0 30) = true := bI_ne c_7
    refine lv_iload_n zx zb dX11_then_10 rfl (lv_at hl 2 rfl) ?_
    refine lv_iconst (v := nI 0) zx zb dX11_then_11 (by decide) ?_
    refine lv_iconst (v := nI 4) zx zb dX11_then_12 (by decide) ?_
    refine callR_Si (As := [.int w, .int (nI 0), .int (nI 4)]) (rest := []) XX cs_X11_75 (c_X11_within Γ l w 0 4 ) hP hD hS hA nil_mem nil_D rfl hl.1 rfl ⟨⟨by decide, by decide⟩, by decide, by decide⟩ (Nat.le_of_ble_eq_true rfl) dX11_then_13 (fun r_13 H locs hw hP hS => ?_)
    have hw := hw.symm
    subst hw
    refine lv_if_ne (tgt := 28) zx zb dX11_then_16 (by decide) (fun c_16 => ?_) (fun c_16 => ?_)
    · have c_16 : (wi w 0 4) = true := bI_ne c_16
      obtain ⟨j, hj, rfl⟩ := wi_nat 0 30 c_7 rfl rfl (by decide)
      refine lv_aload_n zx zb dX11_then_28 rfl (lv_at hl 0 rfl) ?_
      refine g_get (v := .ref (x 0)) XX hP 0 0 rfl rfl rfl iwX11 1 (by decide) fl_X11_36 rfl dX11_then_29 ?_
      refine g_get (v := .ref (z 0)) XX hP 6 0 rfl rfl rfl iwX8 1 (by decide) fl_X11_82 rfl dX11_then_32 ?_
      refine lv_aload_n zx zb dX11_then_35 rfl (lv_at hl 0 rfl) ?_
      refine g_get (v := .ref (s 0)) XX hP 0 0 rfl rfl rfl iwX11 0 (by decide) fl_X11_30 rfl dX11_then_36 ?_
      refine g_get (v := .ref (y 0)) XX hP 1 0 rfl rfl rfl iwX8 1 (by decide) fl_X11_82 rfl dX11_then_39 ?_
      refine call_Vv (As := [.ref (y 0)]) (rest := []) XX cv_X11_142 (c_X10_copyOf Γ l z Z y Y ) hP hD hS hA [7, 5] (by decide) rfl (fun _ => rfl) 7 0 rfl rfl rfl rfl hl.1 rfl ⟨⟨by decide, by decide⟩, by decide, by decide⟩ (Nat.le_of_ble_eq_true rfl) dX11_then_42 (fun u H locs hw hP hD hS => ?_)
      have hw := hw.symm
      subst hw
      have hP : bP Γ [bTT Γ t s x V, bSt Γ s c y p pc, bCo Γ c k C, bTs Γ c k tr, bKd Γ k, bYr Γ y Y, bSt Γ x d z p2 pc2, bYr Γ z Y] H := hP
      have hD : bD AA [bTT Γ t s x V, bSt Γ s c y p pc, bCo Γ c k C, bTs Γ c k tr, bKd Γ k, bYr Γ y Y, bSt Γ x d z p2 pc2, bYr Γ z Y] := hD
      refine lv_iconst (v := nI 0) zx zb dX11_then_45 (by decide) ?_
      refine lv_istore_n (lv' := [(3, .int (nI 0)), (0, .ref (t 0)), (1, .int (nI j)), (2, .int w)]) zx zb dX11_then_46 rfl hl (by decide) rfl (fun ls hl => ?_)
      refine lv_iconst (v := nI 0) zx zb dX11_then_47 (by decide) ?_
      refine lv_istore (lv' := [(4, .int (nI 0)), (3, .int (nI 0)), (0, .ref (t 0)), (1, .int (nI j)), (2, .int w)]) zx zb dX11_then_48 hl (by decide) rfl (fun ls hl => ?_)
      have L50 : ∀ (nn : Nat) (i : Nat) (f : Int32) (Q : YrV), (i ≤ j) → (f = runF C tr Y i) → (Q = runM C tr Y i) → j - i < nn → ∀ (H : Heap) (locs : List Loc), bP Γ [bTT Γ t s x V, bSt Γ s c y p pc, bCo Γ c k C, bTs Γ c k tr, bKd Γ k, bYr Γ y Y, bSt Γ x d z p2 pc2, bYr Γ z Q] H → bD AA [bTT Γ t s x V, bSt Γ s c y p pc, bCo Γ c k C, bTs Γ c k tr, bKd Γ k, bYr Γ y Y, bSt Γ x d z p2 pc2, bYr Γ z Q] → va_S AA ss.heap H locs → ∀ (ls : Array Slot), lv_has ls 5 [(0, .ref (t 0)), (1, .int (nI j)), (2, .int w), (3, .int f), (4, .int (nI i))] → W pp l ee { frames := 5, cells := 0, slots := 0, locals := 114 } ss mm [.ref (t 0), .int (nI j), .int w].toArray bb me cd H locs 0 0 QQ (F0 mm 50 ls []) := by
        intro nn
        induction nn with
        | zero => intro i f Q hi hf hQ hm; exact absurd hm (Nat.not_lt_zero _)
        | succ nn ih50 =>
          intro i f Q hi hf hQ hm50 H locs hP hD hS ls hl
          refine lv_iload zx zb dX11_then_50 (lv_at hl 4 rfl) ?_
          refine lv_iload_n zx zb dX11_then_52 rfl (lv_at hl 1 rfl) ?_
          refine lv_icmp_ge (tgt := 74) zx zb dX11_then_53 (by decide) (fun c_53 => ?_) (fun c_53 => ?_)
          · have c_53 : j ≤ i := (nI_leI (a := j) (b := i) (by omega) (by omega)).mp c_53
            refine lv_aload_n zx zb dX11_then_74 rfl (lv_at hl 0 rfl) ?_
            refine lv_iload_n zx zb dX11_then_75 rfl (lv_at hl 3 rfl) ?_
            refine lv_iload_n zx zb dX11_then_76 rfl (lv_at hl 2 rfl) ?_
            refine call_Vi (As := [.int f, .int w]) (rest := []) XX cv_X11_210 (c_X11_outcome Γ l t s x V c k y p pc C d z p2 pc2 Q f w (hn)) hP hD hS hA [0, 1, 2, 6, 7] (by decide) rfl (fun _ => rfl) 0 0 rfl rfl rfl rfl hl.1 rfl ⟨⟨by decide, by decide⟩, by decide, by decide⟩ (Nat.le_of_ble_eq_true rfl) dX11_then_77 (fun r_77 u H locs hw hP hD hS => ?_)
            have hw := hw.symm
            subst hw
            have hP : bP Γ [bTT Γ t s x V, bSt Γ s c y p pc, bCo Γ c k C, bTs Γ c k tr, bKd Γ k, bYr Γ y Y, bSt Γ x d z p2 pc2, bYr Γ z Q] H := hP
            have hD : bD AA [bTT Γ t s x V, bSt Γ s c y p pc, bCo Γ c k C, bTs Γ c k tr, bKd Γ k, bYr Γ y Y, bSt Γ x d z p2 pc2, bYr Γ z Q] := hD
            exact fin _ _ (outV C Q f w) (V, Q) 80 _ dX11_then_80 (fun h => by cases h) (by have e : i = j := (by omega); subst e; exact ⟨by unfold thR thOk; rw [c_7, c_16, nI_clamp (by omega), ← hf, ← hQ]; rfl, by unfold thOk; rw [c_7, c_16]; rfl⟩) hP hD hS
          · have c_53 : ¬ (j ≤ i) := fun h => c_53 ((nI_leI (a := j) (b := i) (by omega) (by omega)).mpr h)
            refine lv_aload_n zx zb dX11_then_56 rfl (lv_at hl 0 rfl) ?_
            refine lv_aload_n zx zb dX11_then_57 rfl (lv_at hl 0 rfl) ?_
            refine g_get (v := .ref (s 0)) XX hP 0 0 rfl rfl rfl iwX11 0 (by decide) fl_X11_30 rfl dX11_then_58 ?_
            refine g_get (v := .ref (c 0)) XX hP 1 0 rfl rfl rfl iwX8 0 (by decide) fl_X11_100 rfl dX11_then_61 ?_
            refine call_Vi (As := [.ref (c 0)]) (rest := []) XX cv_X11_206 (c_X11_runAhead Γ l t s x V c k C tr d z p2 pc2 Q (hn) (htc) (hkd)) hP hD hS hA [0, 6, 2, 3, 4, 7] (by decide) rfl (fun _ => rfl) 0 0 rfl rfl rfl rfl hl.1 rfl ⟨⟨by decide, by decide⟩, by decide, by decide⟩ (Nat.le_of_ble_eq_true rfl) dX11_then_64 (fun r_64 u H locs hw hP hD hS => ?_)
            obtain ⟨hw1, hw2⟩ := hw
            have hw1 := hw1.symm
            have hw2 := hw2.symm
            subst hw1
            subst hw2
            have hP : bP Γ [bTT Γ t s x V, bSt Γ s c y p pc, bCo Γ c k C, bTs Γ c k tr, bKd Γ k, bYr Γ y Y, bSt Γ x d z p2 pc2, bYr Γ z (coNext C tr Q)] H := hP
            have hD : bD AA [bTT Γ t s x V, bSt Γ s c y p pc, bCo Γ c k C, bTs Γ c k tr, bKd Γ k, bYr Γ y Y, bSt Γ x d z p2 pc2, bYr Γ z (coNext C tr Q)] := hD
            refine lv_istore_n (lv' := [(3, .int (coNextF C tr Q)), (0, .ref (t 0)), (1, .int (nI j)), (2, .int w), (4, .int (nI i))]) zx zb dX11_then_67 rfl hl (by decide) rfl (fun ls hl => ?_)
            refine lv_iinc (v := nI (i + 1)) (lv' := [(4, .int (nI (i + 1))), (3, .int (coNextF C tr Q)), (0, .ref (t 0)), (1, .int (nI j)), (2, .int w)]) zx zb dX11_then_68 hl (k := 4) rfl (nI_inc _ 1) (by decide) rfl (fun ls hl => ?_)
            refine lv_goto (tgt := 50) zx zb dX11_then_71 (by decide) ?_
            exact ih50 (i + 1) (coNextF C tr Q) (coNext C tr Q) (by omega) (by rw [runF, ← hQ]) (by rw [runM, ← hQ]) (by omega) _ _ hP hD hS _ (lv_sub hl [2, 3, 4, 1, 0] rfl)
      exact L50 _ 0 0 Y (by omega) (rfl) (rfl) (Nat.lt_succ_self _) _ _ hP hD hS _ (lv_sub hl [2, 3, 4, 1, 0] rfl)
    · have c_16 : (wi w 0 4) = false := bI_0.mp c_16
      refine lv_aload_n zx zb dX11_then_19 rfl (lv_at hl 0 rfl) ?_
      refine lv_bipush (v := (-2)) zx zb dX11_then_20 (by decide) ?_
      refine lv_bipush (v := (-2)) zx zb dX11_then_22 (by decide) ?_
      refine call_Vi (As := [.int (-2), .int (-2)]) (rest := []) XX cv_X11_79 (c_X11_refused Γ l t s x V (-2) (-2) ) hP hD hS hA [0] (by decide) rfl (fun _ => rfl) 0 0 rfl rfl rfl rfl hl.1 rfl ⟨⟨by decide, by decide⟩, by decide, by decide⟩ (Nat.le_of_ble_eq_true rfl) dX11_then_24 (fun r_24 u H locs hw hP hD hS => ?_)
      obtain ⟨hw1, hw2⟩ := hw
      have hw1 := hw1.symm
      have hw2 := hw2.symm
      subst hw1
      subst hw2
      have hP : bP Γ [bTT Γ t s x (ttRef V (-2)), bSt Γ s c y p pc, bCo Γ c k C, bTs Γ c k tr, bKd Γ k, bYr Γ y Y, bSt Γ x d z p2 pc2, bYr Γ z Z] H := hP
      have hD : bD AA [bTT Γ t s x (ttRef V (-2)), bSt Γ s c y p pc, bCo Γ c k C, bTs Γ c k tr, bKd Γ k, bYr Γ y Y, bSt Γ x d z p2 pc2, bYr Γ z Z] := hD
      exact fin _ _ (-2) ((ttRef V (-2)), Z) 27 _ dX11_then_27 (fun h => by cases h) (⟨by simp [thR, thOk, c_7, c_16], by simp only [stV, thOk, c_7, c_16, ttRef_b, Bool.false_and, Bool.and_false]; rfl⟩) hP hD hS

set_option maxHeartbeats 4000000 in
set_option maxRecDepth 100000 in
theorem c_X11_firstLost (Γ : GG) (l : Launch) (t : Nat → Nat) (s : Nat → Nat) (x : Nat → Nat) (V : V3) (c : Nat → Nat) (k : Nat → Nat) (y : Nat → Nat) (p : Nat → Nat → Nat) (pc : Nat) (C : CoV) (tr : Nat → TrV) (Y : YrV) (d : Nat → Nat) (z : Nat → Nat) (p2 : Nat → Nat → Nat) (pc2 : Nat) (Z : YrV) (hn : C.1 ≤ 8) (htc : C.2.2.2.2.2.2.1 ≤ 6) (hkd : ∀ i, i < 6 → (tr i).1 < 6) : Ci Γ l yX11_firstLost cX11_firstLost 3 (some (.int)) 5 114 0 0 [.ref (t 0)] [bTT Γ t s x V, bSt Γ s c y p pc, bCo Γ c k C, bTs Γ c k tr, bKd Γ k, bYr Γ y Y, bSt Γ x d z p2 pc2, bYr Γ z Z] (fun (r : Int32) (u : YrV) => r = flR C tr Y) (fun (u : YrV) => [bTT Γ t s x V, bSt Γ s c y p pc, bCo Γ c k C, bTs Γ c k tr, bKd Γ k, bYr Γ y Y, bSt Γ x d z p2 pc2, bYr Γ z u]) := by
  refine Ci.of (Or.inl rfl) (by decide) (Nat.le_of_ble_eq_true rfl) ?_
  intro pp ee ss mm bb me cd AA QQ XX hnm hA hP hD fin ls hl
  obtain ⟨zx, zb, hml, hown, hts, hK⟩ := id XX
  have hS : va_S AA ss.heap ss.heap [] := va_S.rf
  have hl : lv_has ls 3 [(0, .ref (t 0))] := hl
  refine lv_aload_n zx zb dX11_firstLost_0 rfl (lv_at hl 0 rfl) ?_
  refine g_get (v := .ref (s 0)) XX hP 0 0 rfl rfl rfl iwX11 0 (by decide) fl_X11_30 rfl dX11_firstLost_1 ?_
  refine g_get (v := .ref (y 0)) XX hP 1 0 rfl rfl rfl iwX8 1 (by decide) fl_X11_82 rfl dX11_firstLost_4 ?_
  refine call_Vi (As := []) (rest := []) XX cv_X11_213 (c_X10_lost Γ l y Y ) hP hD hS hA [5] (by decide) rfl (fun _ => rfl) 5 0 rfl rfl rfl rfl hl.1 rfl ⟨⟨by decide, by decide⟩, by decide, by decide⟩ (Nat.le_of_ble_eq_true rfl) dX11_firstLost_7 (fun r_7 u H locs hw hP hD hS => ?_)
  have hw := hw.symm
  subst hw
  have hP : bP Γ [bTT Γ t s x V, bSt Γ s c y p pc, bCo Γ c k C, bTs Γ c k tr, bKd Γ k, bYr Γ y Y, bSt Γ x d z p2 pc2, bYr Γ z Z] H := hP
  have hD : bD AA [bTT Γ t s x V, bSt Γ s c y p pc, bCo Γ c k C, bTs Γ c k tr, bKd Γ k, bYr Γ y Y, bSt Γ x d z p2 pc2, bYr Γ z Z] := hD
  refine lv_if_eq (tgt := 24) zx zb dX11_firstLost_10 (by decide) (fun c_10 => ?_) (fun c_10 => ?_)
  · have c_10 : (yrLostB Y 8) = (0 : Int32) := c_10
    refine lv_aload_n zx zb dX11_firstLost_24 rfl (lv_at hl 0 rfl) ?_
    refine g_get (v := .ref (x 0)) XX hP 0 0 rfl rfl rfl iwX11 1 (by decide) fl_X11_36 rfl dX11_firstLost_25 ?_
    refine g_get (v := .ref (z 0)) XX hP 6 0 rfl rfl rfl iwX8 1 (by decide) fl_X11_82 rfl dX11_firstLost_28 ?_
    refine lv_aload_n zx zb dX11_firstLost_31 rfl (lv_at hl 0 rfl) ?_
    refine g_get (v := .ref (s 0)) XX hP 0 0 rfl rfl rfl iwX11 0 (by decide) fl_X11_30 rfl dX11_firstLost_32 ?_
    refine g_get (v := .ref (y 0)) XX hP 1 0 rfl rfl rfl iwX8 1 (by decide) fl_X11_82 rfl dX11_firstLost_35 ?_
    refine call_Vv (As := [.ref (y 0)]) (rest := []) XX cv_X11_142 (c_X10_copyOf Γ l z Z y Y ) hP hD hS hA [7, 5] (by decide) rfl (fun _ => rfl) 7 0 rfl rfl rfl rfl hl.1 rfl ⟨⟨by decide, by decide⟩, by decide, by decide⟩ (Nat.le_of_ble_eq_true rfl) dX11_firstLost_38 (fun u H locs hw hP hD hS => ?_)
    have hw := hw.symm
    subst hw
    have hP : bP Γ [bTT Γ t s x V, bSt Γ s c y p pc, bCo Γ c k C, bTs Γ c k tr, bKd Γ k, bYr Γ y Y, bSt Γ x d z p2 pc2, bYr Γ z Y] H := hP
    have hD : bD AA [bTT Γ t s x V, bSt Γ s c y p pc, bCo Γ c k C, bTs Γ c k tr, bKd Γ k, bYr Γ y Y, bSt Γ x d z p2 pc2, bYr Γ z Y] := hD
    refine lv_iconst (v := nI 0) zx zb dX11_firstLost_41 (by decide) ?_
    refine lv_istore_n (lv' := [(1, .int (nI 0)), (0, .ref (t 0))]) zx zb dX11_firstLost_42 rfl hl (by decide) rfl (fun ls hl => ?_)
    have L43 : ∀ (nn : Nat) (i : Nat) (Q : YrV), (i ≤ 30) → (Q = runM C tr Y i) → (∀ j, j < i → flP C tr Y j = false) → 30 - i < nn → ∀ (H : Heap) (locs : List Loc), bP Γ [bTT Γ t s x V, bSt Γ s c y p pc, bCo Γ c k C, bTs Γ c k tr, bKd Γ k, bYr Γ y Y, bSt Γ x d z p2 pc2, bYr Γ z Q] H → bD AA [bTT Γ t s x V, bSt Γ s c y p pc, bCo Γ c k C, bTs Γ c k tr, bKd Γ k, bYr Γ y Y, bSt Γ x d z p2 pc2, bYr Γ z Q] → va_S AA ss.heap H locs → ∀ (ls : Array Slot), lv_has ls 3 [(0, .ref (t 0)), (1, .int (nI i))] → W pp l ee { frames := 5, cells := 0, slots := 0, locals := 114 } ss mm [.ref (t 0)].toArray bb me cd H locs 0 0 QQ (F0 mm 43 ls []) := by
      intro nn
      induction nn with
      | zero => intro i Q hi hQ hp hm; exact absurd hm (Nat.not_lt_zero _)
      | succ nn ih43 =>
        intro i Q hi hQ hp hm43 H locs hP hD hS ls hl
        refine lv_iload_n zx zb dX11_firstLost_43 rfl (lv_at hl 1 rfl) ?_
        refine lv_bipush (v := nI 30) zx zb dX11_firstLost_44 (by decide) ?_
        refine lv_icmp_ge (tgt := 93) zx zb dX11_firstLost_46 (by decide) (fun c_46 => ?_) (fun c_46 => ?_)
        · have c_46 : 30 ≤ i := (nI_leI (a := 30) (b := i) (by omega) (by omega)).mp c_46
          refine lv_iconst (v := (-1)) zx zb dX11_firstLost_93 (by decide) ?_
          exact fin _ _ (-1) Q 94 _ dX11_firstLost_94 (fun h => by cases h) (by unfold flR; rw [if_neg (fun h => h c_10), firstN_eq hp (Or.inr (by omega)), if_neg (by omega)]) hP hD hS
        · have c_46 : ¬ (30 ≤ i) := fun h => c_46 ((nI_leI (a := 30) (b := i) (by omega) (by omega)).mpr h)
          refine lv_aload_n zx zb dX11_firstLost_49 rfl (lv_at hl 0 rfl) ?_
          refine g_get (v := .ref (x 0)) XX hP 0 0 rfl rfl rfl iwX11 1 (by decide) fl_X11_36 rfl dX11_firstLost_50 ?_
          refine g_get (v := .ref (z 0)) XX hP 6 0 rfl rfl rfl iwX8 1 (by decide) fl_X11_82 rfl dX11_firstLost_53 ?_
          refine g_get (v := .int Q.1) XX hP 7 0 rfl rfl rfl iwX10 0 (by decide) fl_X11_110 rfl dX11_firstLost_56 ?_
          refine lv_istore_n (lv' := [(2, .int Q.1), (0, .ref (t 0)), (1, .int (nI i))]) zx zb dX11_firstLost_59 rfl hl (by decide) rfl (fun ls hl => ?_)
          refine lv_aload_n zx zb dX11_firstLost_60 rfl (lv_at hl 1 rfl) ?_
          refine lv_aload_n zx zb dX11_firstLost_61 rfl (lv_at hl 1 rfl) ?_
          refine g_get (v := .ref (s 0)) XX hP 0 0 rfl rfl rfl iwX11 0 (by decide) fl_X11_30 rfl dX11_firstLost_62 ?_
          refine g_get (v := .ref (c 0)) XX hP 1 0 rfl rfl rfl iwX8 0 (by decide) fl_X11_100 rfl dX11_firstLost_65 ?_
          refine call_Vi (As := [.ref (c 0)]) (rest := []) XX cv_X11_206 (c_X11_runAhead Γ l t s x V c k C tr d z p2 pc2 Q (hn) (htc) (hkd)) hP hD hS hA [0, 6, 2, 3, 4, 7] (by decide) rfl (fun _ => rfl) 0 0 rfl rfl rfl rfl hl.1 rfl ⟨⟨by decide, by decide⟩, by decide, by decide⟩ (Nat.le_of_ble_eq_true rfl) dX11_firstLost_68 (fun r_68 u H locs hw hP hD hS => ?_)
          obtain ⟨hw1, hw2⟩ := hw
          have hw1 := hw1.symm
          have hw2 := hw2.symm
          subst hw1
          subst hw2
          have hP : bP Γ [bTT Γ t s x V, bSt Γ s c y p pc, bCo Γ c k C, bTs Γ c k tr, bKd Γ k, bYr Γ y Y, bSt Γ x d z p2 pc2, bYr Γ z (coNext C tr Q)] H := hP
          have hD : bD AA [bTT Γ t s x V, bSt Γ s c y p pc, bCo Γ c k C, bTs Γ c k tr, bKd Γ k, bYr Γ y Y, bSt Γ x d z p2 pc2, bYr Γ z (coNext C tr Q)] := hD
          refine lv_pop zx zb dX11_firstLost_71 rfl ?_
          refine lv_aload_n zx zb dX11_firstLost_72 rfl (lv_at hl 1 rfl) ?_
          refine g_get (v := .ref (x 0)) XX hP 0 0 rfl rfl rfl iwX11 1 (by decide) fl_X11_36 rfl dX11_firstLost_73 ?_
          refine g_get (v := .ref (z 0)) XX hP 6 0 rfl rfl rfl iwX8 1 (by decide) fl_X11_82 rfl dX11_firstLost_76 ?_
          refine call_Vi (As := []) (rest := []) XX cv_X11_213 (c_X10_lost Γ l z (coNext C tr Q) ) hP hD hS hA [7] (by decide) rfl (fun _ => rfl) 7 0 rfl rfl rfl rfl hl.1 rfl ⟨⟨by decide, by decide⟩, by decide, by decide⟩ (Nat.le_of_ble_eq_true rfl) dX11_firstLost_79 (fun r_79 u H locs hw hP hD hS => ?_)
          have hw := hw.symm
          subst hw
          have hP : bP Γ [bTT Γ t s x V, bSt Γ s c y p pc, bCo Γ c k C, bTs Γ c k tr, bKd Γ k, bYr Γ y Y, bSt Γ x d z p2 pc2, bYr Γ z (coNext C tr Q)] H := hP
          have hD : bD AA [bTT Γ t s x V, bSt Γ s c y p pc, bCo Γ c k C, bTs Γ c k tr, bKd Γ k, bYr Γ y Y, bSt Γ x d z p2 pc2, bYr Γ z (coNext C tr Q)] := hD
          refine lv_if_eq (tgt := 87) zx zb dX11_firstLost_82 (by decide) (fun c_82 => ?_) (fun c_82 => ?_)
          · have c_82 : (yrLostB (coNext C tr Q) 8) = (0 : Int32) := c_82
            refine lv_iinc (v := nI (i + 1)) (lv' := [(1, .int (nI (i + 1))), (2, .int Q.1), (0, .ref (t 0))]) zx zb dX11_firstLost_87 hl (k := 2) rfl (nI_inc _ 1) (by decide) rfl (fun ls hl => ?_)
            refine lv_goto (tgt := 43) zx zb dX11_firstLost_90 (by decide) ?_
            exact ih43 (i + 1) (coNext C tr Q) (by omega) (by rw [runM, ← hQ]) (lt_s hp (by unfold flP; rw [runM, ← hQ]; simp [c_82])) (by omega) _ _ hP hD hS _ (lv_sub hl [2, 0] rfl)
          · have c_82 : ¬ ((yrLostB (coNext C tr Q) 8) = (0 : Int32)) := c_82
            refine lv_iload_n zx zb dX11_firstLost_85 rfl (lv_at hl 0 rfl) ?_
            exact fin _ _ Q.1 (coNext C tr Q) 86 _ dX11_firstLost_86 (fun h => by cases h) (by unfold flR; rw [if_neg (fun h => h c_10), firstN_eq hp (Or.inl ⟨by omega, by unfold flP; rw [runM, ← hQ]; simp [c_82]⟩), if_pos (by omega), hQ]) hP hD hS
    exact L43 _ 0 Y (by omega) (rfl) (lt_0) (Nat.lt_succ_self _) _ _ hP hD hS _ (lv_sub hl [1, 0] rfl)
  · have c_10 : ¬ ((yrLostB Y 8) = (0 : Int32)) := c_10
    refine lv_aload_n zx zb dX11_firstLost_13 rfl (lv_at hl 0 rfl) ?_
    refine g_get (v := .ref (s 0)) XX hP 0 0 rfl rfl rfl iwX11 0 (by decide) fl_X11_30 rfl dX11_firstLost_14 ?_
    refine g_get (v := .ref (y 0)) XX hP 1 0 rfl rfl rfl iwX8 1 (by decide) fl_X11_82 rfl dX11_firstLost_17 ?_
    refine g_get (v := .int Y.1) XX hP 5 0 rfl rfl rfl iwX10 0 (by decide) fl_X11_110 rfl dX11_firstLost_20 ?_
    exact fin _ _ Y.1 Z 23 _ dX11_firstLost_23 (fun h => by cases h) (by unfold flR; rw [if_pos c_10]) hP hD hS
