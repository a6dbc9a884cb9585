theorem cs_X11_75 : CWS RX11 75 yX11_within cX11_within 3 (some (.boolean)) 3 := ⟨cd_X11_within, st_X11_within, in_X11, ml_X11_75, by decide +kernel⟩
theorem cn_X8_54 : CWSN RX8 54 yX11_within RX11 cX11_within 3 (some (.boolean)) 3 := ⟨cd_X11_within, st_X11_within, in_X11, nl_X8_54, by decide +kernel⟩
theorem cn_X8_62 : CWSN RX8 62 yX11_isTown RX11 cX11_isTown 1 (some (.boolean)) 1 := ⟨cd_X11_isTown, st_X11_isTown, in_X11, nl_X8_62, by decide +kernel⟩
theorem cv_X8_135 : CWV RX8 135 RX10 yX10_isBreached cX10_isBreached 2 (some (.boolean)) 1 := ⟨cd_X10_isBreached, im_X10_isBreached, se_X10_X10_isBreached_X10_isBreached, in_X10, ml_X8_135, by decide +kernel⟩
theorem cv_X8_31 : CWV RX8 31 RX2 yX2_begin cX2_begin 3 none 1 := ⟨cd_X2_begin, im_X2_begin, se_X2_X2_begin_X2_begin, in_X2, ml_X8_31, by decide +kernel⟩
theorem cv_X8_35 : CWV RX8 35 RX10 yX10_begin cX10_begin 2 none 0 := ⟨cd_X10_begin, im_X10_begin, se_X10_X10_begin_X10_begin, in_X10, ml_X8_35, by decide +kernel⟩
theorem cv_X8_58 : CWV RX8 58 RX8 yX8_isCellOfIt cX8_isCellOfIt 2 (some (.boolean)) 1 := ⟨cd_X8_isCellOfIt, im_X8_isCellOfIt, se_X8_X8_isCellOfIt_X8_isCellOfIt, in_X8, ml_X8_58, by decide +kernel⟩
theorem cv_X8_69 : CWV RX8 69 RX2 yX2_setCell cX2_setCell 5 none 4 := ⟨cd_X2_setCell, im_X2_setCell, se_X2_X2_setCell_X2_setCell, in_X2, ml_X8_69, by decide +kernel⟩
theorem cv_X8_85 : CWV RX8 85 RX2 yX2_addTreaty cX2_addTreaty 8 (some (.int)) 6 := ⟨cd_X2_addTreaty, im_X2_addTreaty, se_X2_X2_addTreaty_X2_addTreaty, in_X2, ml_X8_85, by decide +kernel⟩
theorem cv_X8_95 : CWV RX8 95 RX10 yX10_lost cX10_lost 3 (some (.int)) 0 := ⟨cd_X10_lost, im_X10_lost, se_X10_X10_lost_X10_lost, in_X10, ml_X8_95, by decide +kernel⟩
theorem cv_X8_99 : CWV RX8 99 RX2 yX2_worthOfAll cX2_worthOfAll 4 (some (.int)) 1 := ⟨cd_X2_worthOfAll, im_X2_worthOfAll, se_X2_X2_worthOfAll_X2_worthOfAll, in_X2, ml_X8_99, by decide +kernel⟩
set_option maxHeartbeats 4000000 in
set_option maxRecDepth 100000 in
theorem c_X11_within (Γ : GG) (l : Launch) (x : Int32) (a : Int32) (b : Int32)  : Ci Γ l yX11_within cX11_within 3 (some (.boolean)) 0 0 0 0 [.int x, .int a, .int b] [] (fun (r : Int32) (u : Unit) => r = bI (wi x a b)) (fun (u : Unit) => []) := by
  refine Ci.of (Or.inr rfl) (by decide) (Nat.le_of_ble_eq_true rfl) ?_
  intro pp ee ss mm bb me cd AA QQ XX hnm hA hP hD fin ls hl
  obtain ⟨zx, zb, hml, hown, hts, hK⟩ := id XX
  have hS : va_S AA ss.heap ss.heap [] := va_S.rf
  have hl : lv_has ls 3 [(0, .int x), (1, .int a), (2, .int b)] := hl
  refine lv_iload_n zx zb dX11_within_0 rfl (lv_at hl 1 rfl) ?_
  refine lv_iload_n zx zb dX11_within_1 rfl (lv_at hl 0 rfl) ?_
  refine lv_icmp_gt (tgt := 14) zx zb dX11_within_2 (by decide) (fun c_2 => ?_) (fun c_2 => ?_)
  · have c_2 : x < a := c_2
    refine lv_iconst (v := nI 0) zx zb dX11_within_14 (by decide) ?_
    exact fin _ _ (nI 0) () 15 _ dX11_within_15 (fun _ => nar0) (by first | exact retT (by simp only [wi, Bool.and_eq_true, decide_eq_true_eq, Bool.and_eq_false_iff, decide_eq_false_iff_not]; first | exact ⟨Int32.not_lt.mp c_2, Int32.not_lt.mp c_7⟩ | exact Or.inl (Int32.not_le.mpr c_2) | exact Or.inr (Int32.not_le.mpr c_7)) | exact retF (by simp only [wi, Bool.and_eq_true, decide_eq_true_eq, Bool.and_eq_false_iff, decide_eq_false_iff_not]; first | exact ⟨Int32.not_lt.mp c_2, Int32.not_lt.mp c_7⟩ | exact Or.inl (Int32.not_le.mpr c_2) | exact Or.inr (Int32.not_le.mpr c_7))) hP hD hS
  · have c_2 : ¬ (x < a) := c_2
    refine lv_iload_n zx zb dX11_within_5 rfl (lv_at hl 0 rfl) ?_
    refine lv_iload_n zx zb dX11_within_6 rfl (lv_at hl 2 rfl) ?_
    refine lv_icmp_gt (tgt := 14) zx zb dX11_within_7 (by decide) (fun c_7 => ?_) (fun c_7 => ?_)
    · have c_7 : b < x := c_7
      refine lv_iconst (v := nI 0) zx zb dX11_within_14 (by decide) ?_
      exact fin _ _ (nI 0) () 15 _ dX11_within_15 (fun _ => nar0) (by first | exact retT (by simp only [wi, Bool.and_eq_true, decide_eq_true_eq, Bool.and_eq_false_iff, decide_eq_false_iff_not]; first | exact ⟨Int32.not_lt.mp c_2, Int32.not_lt.mp c_7⟩ | exact Or.inl (Int32.not_le.mpr c_2) | exact Or.inr (Int32.not_le.mpr c_7)) | exact retF (by simp only [wi, Bool.and_eq_true, decide_eq_true_eq, Bool.and_eq_false_iff, decide_eq_false_iff_not]; first | exact ⟨Int32.not_lt.mp c_2, Int32.not_lt.mp c_7⟩ | exact Or.inl (Int32.not_le.mpr c_2) | exact Or.inr (Int32.not_le.mpr c_7))) hP hD hS
    · have c_7 : ¬ (b < x) := c_7
      refine lv_iconst (v := nI 1) zx zb dX11_within_10 (by decide) ?_
      refine lv_goto (tgt := 15) zx zb dX11_within_11 (by decide) ?_
      exact fin _ _ (nI 1) () 15 _ dX11_within_15 (fun _ => nar1) (by first | exact retT (by simp only [wi, Bool.and_eq_true, decide_eq_true_eq, Bool.and_eq_false_iff, decide_eq_false_iff_not]; first | exact ⟨Int32.not_lt.mp c_2, Int32.not_lt.mp c_7⟩ | exact Or.inl (Int32.not_le.mpr c_2) | exact Or.inr (Int32.not_le.mpr c_7)) | exact retF (by simp only [wi, Bool.and_eq_true, decide_eq_true_eq, Bool.and_eq_false_iff, decide_eq_false_iff_not]; first | exact ⟨Int32.not_lt.mp c_2, Int32.not_lt.mp c_7⟩ | exact Or.inl (Int32.not_le.mpr c_2) | exact Or.inr (Int32.not_le.mpr c_7))) hP hD hS

set_option maxHeartbeats 4000000 in
set_option maxRecDepth 100000 in
theorem c_X11_isTown (Γ : GG) (l : Launch) (x : Int32)  : Ci Γ l yX11_isTown cX11_isTown 1 (some (.boolean)) 1 22 0 0 [.int x] [] (fun (r : Int32) (u : Unit) => r = bI (wi x 0 2)) (fun (u : Unit) => []) := by
  refine Ci.of (Or.inr rfl) (by decide) (Nat.le_of_ble_eq_true rfl) ?_
  intro pp ee ss mm bb me cd AA QQ XX hnm hA hP hD fin ls hl
  obtain ⟨zx, zb, hml, hown, hts, hK⟩ := id XX
  have hS : va_S AA ss.heap ss.heap [] := va_S.rf
  have hl : lv_has ls 1 [(0, .int x)] := hl
  refine lv_iload_n zx zb dX11_isTown_0 rfl (lv_at hl 0 rfl) ?_
  refine lv_iconst (v := nI 0) zx zb dX11_isTown_1 (by decide) ?_
  refine lv_iconst (v := nI 2) zx zb dX11_isTown_2 (by decide) ?_
  refine callR_Si (As := [.int x, .int (nI 0), .int (nI 2)]) (rest := []) XX cs_X11_75 (c_X11_within Γ l x 0 2 ) hP hD hS hA nil_mem nil_D rfl hl.1 rfl ⟨⟨by decide, by decide⟩, by decide, by decide⟩ (Nat.le_of_ble_eq_true rfl) dX11_isTown_3 (fun r_3 H locs hw hP hS => ?_)
  have hw := hw.symm
  subst hw
  exact fin _ _ (bI (wi x 0 2)) () 6 _ dX11_isTown_6 (fun _ => bI_narrow _) (rfl) hP hD hS

set_option maxHeartbeats 4000000 in
set_option maxRecDepth 100000 in
theorem c_X8_isCellOfIt (Γ : GG) (l : Launch) (s : Nat → Nat) (c : Nat → Nat) (k : Nat → Nat) (y : Nat → Nat) (p : Nat → Nat → Nat) (pc : Nat) (C : CoV) (x : Int32)  : Ci Γ l yX8_isCellOfIt cX8_isCellOfIt 2 (some (.boolean)) 1 22 0 0 [.ref (s 0), .int x] [bSt Γ s c y p pc, bCo Γ c k C] (fun (r : Int32) (u : Unit) => r = bI (stCell C x)) (fun (u : Unit) => [bSt Γ s c y p pc, bCo Γ c k C]) := by
  refine Ci.of (Or.inr rfl) (by decide) (Nat.le_of_ble_eq_true rfl) ?_
  intro pp ee ss mm bb me cd AA QQ XX hnm hA hP hD fin ls hl
  obtain ⟨zx, zb, hml, hown, hts, hK⟩ := id XX
  have hS : va_S AA ss.heap ss.heap [] := va_S.rf
  have hl : lv_has ls 2 [(0, .ref (s 0)), (1, .int x)] := hl
  refine lv_iload_n zx zb dX8_isCellOfIt_0 rfl (lv_at hl 1 rfl) ?_
  refine lv_iconst (v := nI 0) zx zb dX8_isCellOfIt_1 (by decide) ?_
  refine lv_aload_n zx zb dX8_isCellOfIt_2 rfl (lv_at hl 0 rfl) ?_
  refine g_get (v := .ref (c 0)) XX hP 0 0 rfl rfl rfl iwX8 0 (by decide) fl_X8_27 rfl dX8_isCellOfIt_3 ?_
  refine g_get (v := .int (nI (C.1))) XX hP 1 0 rfl rfl rfl iwX2 1 (by decide) fl_X8_51 rfl dX8_isCellOfIt_6 ?_
  refine lv_iconst (v := nI 1) zx zb dX8_isCellOfIt_9 (by decide) ?_
  refine lv_isub zx zb dX8_isCellOfIt_10 ?_
  refine g_top (y := (nI (C.1)) - 1) rfl ?_
  refine callR_SNi (As := [.int x, .int (nI 0), .int ((nI (C.1)) - 1)]) (rest := []) XX cn_X8_54 (c_X11_within Γ l x 0 ((nI (C.1)) - 1) ) hP hD hS hA nil_mem nil_D rfl hl.1 rfl ⟨⟨by decide, by decide⟩, by decide, by decide⟩ (Nat.le_of_ble_eq_true rfl) dX8_isCellOfIt_11 (fun r_11 H locs hw hP hS => ?_)
  have hw := hw.symm
  subst hw
  exact fin _ _ (bI (wi x 0 ((nI (C.1)) - 1))) () 14 _ dX8_isCellOfIt_14 (fun _ => bI_narrow _) (rfl) hP hD hS

set_option maxHeartbeats 4000000 in
set_option maxRecDepth 100000 in
theorem c_X8_tellCoast (Γ : GG) (l : Launch) (s : Nat → Nat) (c : Nat → Nat) (k : Nat → Nat) (y : Nat → Nat) (p : Nat → Nat → Nat) (pc : Nat) (C : CoV) (Y : YrV) (n : Int32)  : Ci Γ l yX8_tellCoast cX8_tellCoast 3 (some (.int)) 2 46 0 0 [.ref (s 0), .int n] [bSt Γ s c y p pc, bCo Γ c k C, bYr Γ y Y] (fun (r : Int32) (u : CoV × YrV) => r = tCoR n C ∧ u = tCo n C Y) (fun (u : CoV × YrV) => [bSt Γ s c y p pc, bCo Γ c k u.1, bYr Γ y u.2]) := by
  refine Ci.of (Or.inl rfl) (by decide) (Nat.le_of_ble_eq_true rfl) ?_
  intro pp ee ss mm bb me cd AA QQ XX hnm hA hP hD fin ls hl
  obtain ⟨zx, zb, hml, hown, hts, hK⟩ := id XX
  have hS : va_S AA ss.heap ss.heap [] := va_S.rf
  have hl : lv_has ls 3 [(0, .ref (s 0)), (1, .int n)] := hl
  refine lv_iload_n zx zb dX8_tellCoast_0 rfl (lv_at hl 1 rfl) ?_
  refine lv_iconst (v := nI 1) zx zb dX8_tellCoast_1 (by decide) ?_
  refine lv_bipush (v := nI 8) zx zb dX8_tellCoast_2 (by decide) ?_
  refine callR_SNi (As := [.int n, .int (nI 1), .int (nI 8)]) (rest := []) XX cn_X8_54 (c_X11_within Γ l n 1 8 ) hP hD hS hA nil_mem nil_D rfl hl.1 rfl ⟨⟨by decide, by decide⟩, by decide, by decide⟩ (Nat.le_of_ble_eq_true rfl) dX8_tellCoast_4 (fun r_4 H locs hw hP hS => ?_)
  have hw := hw.symm
  subst hw
  refine lv_if_ne (tgt := 13) zx zb dX8_tellCoast_7 (by decide) (fun c_7 => ?_) (fun c_7 => ?_)
  · have c_7 : (wi n 1 8) = true := bI_ne c_7
    obtain ⟨j, hj, rfl⟩ := wi_nat 1 8 c_7 rfl rfl (by decide)
    refine lv_aload_n zx zb dX8_tellCoast_13 rfl (lv_at hl 0 rfl) ?_
    refine g_get (v := .ref (c 0)) XX hP 0 0 rfl rfl rfl iwX8 0 (by decide) fl_X8_27 rfl dX8_tellCoast_14 ?_
    refine g_get (v := .int (nI (C.1))) XX hP 1 0 rfl rfl rfl iwX2 1 (by decide) fl_X8_51 rfl dX8_tellCoast_17 ?_
    refine lv_istore_n (lv' := [(2, .int (nI (C.1))), (0, .ref (s 0)), (1, .int (nI j))]) zx zb dX8_tellCoast_20 rfl hl (by decide) rfl (fun ls hl => ?_)
    refine lv_aload_n zx zb dX8_tellCoast_21 rfl (lv_at hl 1 rfl) ?_
    refine g_get (v := .ref (c 0)) XX hP 0 0 rfl rfl rfl iwX8 0 (by decide) fl_X8_27 rfl dX8_tellCoast_22 ?_
    refine lv_iload_n zx zb dX8_tellCoast_25 rfl (lv_at hl 2 rfl) ?_
    refine call_Vv (As := [.int (nI j)]) (rest := []) XX cv_X8_31 (c_X2_begin Γ l c k C j ) hP hD hS hA [1] (by decide) rfl (fun _ => rfl) 1 0 rfl rfl rfl rfl hl.1 rfl ⟨⟨by decide, by decide⟩, by decide, by decide⟩ (Nat.le_of_ble_eq_true rfl) dX8_tellCoast_26 (fun u H locs hw hP hD hS => ?_)
    have hw := hw.symm
    subst hw
    have hP : bP Γ [bSt Γ s c y p pc, bCo Γ c k (co0 j C), bYr Γ y Y] H := hP
    have hD : bD AA [bSt Γ s c y p pc, bCo Γ c k (co0 j C), bYr Γ y Y] := hD
    refine lv_aload_n zx zb dX8_tellCoast_29 rfl (lv_at hl 1 rfl) ?_
    refine g_get (v := .ref (y 0)) XX hP 0 0 rfl rfl rfl iwX8 1 (by decide) fl_X8_12 rfl dX8_tellCoast_30 ?_
    refine call_Vv (As := []) (rest := []) XX cv_X8_35 (c_X10_begin Γ l y Y ) hP hD hS hA [2] (by decide) rfl (fun _ => rfl) 2 0 rfl rfl rfl rfl hl.1 rfl ⟨⟨by decide, by decide⟩, by decide, by decide⟩ (Nat.le_of_ble_eq_true rfl) dX8_tellCoast_33 (fun u H locs hw hP hD hS => ?_)
    have hw := hw.symm
    subst hw
    have hP : bP Γ [bSt Γ s c y p pc, bCo Γ c k (co0 j C), bYr Γ y yr0] H := hP
    have hD : bD AA [bSt Γ s c y p pc, bCo Γ c k (co0 j C), bYr Γ y yr0] := hD
    refine lv_iload_n zx zb dX8_tellCoast_36 rfl (lv_at hl 0 rfl) ?_
    exact fin _ _ (nI (C.1)) ((co0 j C), yr0) 37 _ dX8_tellCoast_37 (fun h => by cases h) ⟨(by simp [tCoR, c_7]), (by simp only [tCo, c_7, if_true]; rw [nI_clamp (by omega)])⟩ hP hD hS
  · have c_7 : (wi n 1 8) = false := bI_0.mp c_7
    refine lv_bipush (v := (-2)) zx zb dX8_tellCoast_10 (by decide) ?_
    exact fin _ _ (-2) (C, Y) 12 _ dX8_tellCoast_12 (fun h => by cases h) ⟨(by simp [tCoR, c_7]), (by simp [tCo, c_7])⟩ hP hD hS

set_option maxHeartbeats 4000000 in
set_option maxRecDepth 100000 in
theorem c_X8_tellCell (Γ : GG) (l : Launch) (s : Nat → Nat) (c : Nat → Nat) (k : Nat → Nat) (y : Nat → Nat) (p : Nat → Nat → Nat) (pc : Nat) (C : CoV) (Y : YrV) (x : Int32) (h : Int32) (w : Int32) (t : Int32) (hn : C.1 ≤ 8) : Ci Γ l yX8_tellCell cX8_tellCell 6 (some (.int)) 2 43 0 0 [.ref (s 0), .int x, .int h, .int w, .int t] [bSt Γ s c y p pc, bCo Γ c k C, bYr Γ y Y] (fun (r : Int32) (u : CoV × YrV) => r = tCeR C x h w t ∧ u = tCe C Y x h w t) (fun (u : CoV × YrV) => [bSt Γ s c y p pc, bCo Γ c k u.1, bYr Γ y u.2]) := by
  refine Ci.of (Or.inl rfl) (by decide) (Nat.le_of_ble_eq_true rfl) ?_
  intro pp ee ss mm bb me cd AA QQ XX hnm hA hP hD fin ls hl
  obtain ⟨zx, zb, hml, hown, hts, hK⟩ := id XX
  have hS : va_S AA ss.heap ss.heap [] := va_S.rf
  have hl : lv_has ls 6 [(0, .ref (s 0)), (1, .int x), (2, .int h), (3, .int w), (4, .int t)] := hl
  refine lv_aload_n zx zb dX8_tellCell_0 rfl (lv_at hl 0 rfl) ?_
  refine lv_iload_n zx zb dX8_tellCell_1 rfl (lv_at hl 1 rfl) ?_
  refine call_Vi (As := [.int x]) (rest := []) XX cv_X8_58 (c_X8_isCellOfIt Γ l s c k y p pc C x ) hP hD hS hA [0, 1] (by decide) rfl (fun _ => rfl) 0 0 rfl rfl rfl rfl hl.1 rfl ⟨⟨by decide, by decide⟩, by decide, by decide⟩ (Nat.le_of_ble_eq_true rfl) dX8_tellCell_2 (fun r_2 u H locs hw hP hD hS => ?_)
  have hw := hw.symm
  subst hw
  have hP : bP Γ [bSt Γ s c y p pc, bCo Γ c k C, bYr Γ y Y] H := hP
  have hD : bD AA [bSt Γ s c y p pc, bCo Γ c k C, bYr Γ y Y] := hD
  refine lv_if_eq (tgt := 18) zx zb dX8_tellCell_5 (by decide) (fun c_5 => ?_) (fun c_5 => ?_)
  · have c_5 : (stCell C x) = false := bI_0.mp c_5
    refine lv_bipush (v := (-2)) zx zb dX8_tellCell_18 (by decide) ?_
    exact fin _ _ (-2) (C, Y) 20 _ dX8_tellCell_20 (fun h => by cases h) ⟨(by simp [tCeR, okCell, c_5]), (by simp [tCe, okCell, c_5])⟩ hP hD hS
  · have c_5 : (stCell C x) = true := bI_ne c_5
    refine lv_iload_n zx zb dX8_tellCell_8 rfl (lv_at hl 2 rfl) ?_
    refine lv_iconst (v := nI 0) zx zb dX8_tellCell_9 (by decide) ?_
    refine lv_bipush (v := nI 9) zx zb dX8_tellCell_10 (by decide) ?_
    refine callR_SNi (As := [.int h, .int (nI 0), .int (nI 9)]) (rest := []) XX cn_X8_54 (c_X11_within Γ l h 0 9 ) hP hD hS hA nil_mem nil_D rfl hl.1 rfl ⟨⟨by decide, by decide⟩, by decide, by decide⟩ (Nat.le_of_ble_eq_true rfl) dX8_tellCell_12 (fun r_12 H locs hw hP hS => ?_)
    have hw := hw.symm
    subst hw
    refine lv_if_ne (tgt := 21) zx zb dX8_tellCell_15 (by decide) (fun c_15 => ?_) (fun c_15 => ?_)
    · have c_15 : (wi h 0 9) = true := bI_ne c_15
      refine lv_iload_n zx zb dX8_tellCell_21 rfl (lv_at hl 3 rfl) ?_
      refine lv_iconst (v := nI 0) zx zb dX8_tellCell_22 (by decide) ?_
      refine lv_bipush (v := nI 99) zx zb dX8_tellCell_23 (by decide) ?_
      refine callR_SNi (As := [.int w, .int (nI 0), .int (nI 99)]) (rest := []) XX cn_X8_54 (c_X11_within Γ l w 0 99 ) hP hD hS hA nil_mem nil_D rfl hl.1 rfl ⟨⟨by decide, by decide⟩, by decide, by decide⟩ (Nat.le_of_ble_eq_true rfl) dX8_tellCell_25 (fun r_25 H locs hw hP hS => ?_)
      have hw := hw.symm
      subst hw
      refine lv_if_eq (tgt := 39) zx zb dX8_tellCell_28 (by decide) (fun c_28 => ?_) (fun c_28 => ?_)
      · have c_28 : (wi w 0 99) = false := bI_0.mp c_28
        refine lv_bipush (v := (-2)) zx zb dX8_tellCell_39 (by decide) ?_
        exact fin _ _ (-2) (C, Y) 41 _ dX8_tellCell_41 (fun h => by cases h) ⟨(by simp [tCeR, okCell, c_5, c_15, c_28]), (by simp [tCe, okCell, c_5, c_15, c_28])⟩ hP hD hS
      · have c_28 : (wi w 0 99) = true := bI_ne c_28
        refine lv_iload zx zb dX8_tellCell_31 (lv_at hl 4 rfl) ?_
        refine callR_SNi (As := [.int t]) (rest := []) XX cn_X8_62 (c_X11_isTown Γ l t ) hP hD hS hA nil_mem nil_D rfl hl.1 rfl ⟨⟨by decide, by decide⟩, by decide, by decide⟩ (Nat.le_of_ble_eq_true rfl) dX8_tellCell_33 (fun r_33 H locs hw hP hS => ?_)
        have hw := hw.symm
        subst hw
        refine lv_if_ne (tgt := 42) zx zb dX8_tellCell_36 (by decide) (fun c_36 => ?_) (fun c_36 => ?_)
        · have c_36 : (wi t 0 2) = true := bI_ne c_36
          obtain ⟨j, hj, rfl⟩ := cell_nat c_5 hn
          refine lv_aload_n zx zb dX8_tellCell_42 rfl (lv_at hl 0 rfl) ?_
          refine g_get (v := .ref (c 0)) XX hP 0 0 rfl rfl rfl iwX8 0 (by decide) fl_X8_27 rfl dX8_tellCell_43 ?_
          refine g_get (v := .ref (c 1)) XX hP 1 0 rfl rfl rfl iwX2 3 (by decide) fl_X8_65 rfl dX8_tellCell_46 ?_
          refine lv_iload_n zx zb dX8_tellCell_49 rfl (lv_at hl 1 rfl) ?_
          refine g_ialdN (i := j) XX hP 1 1 rfl rfl (by omega) (by decide) dX8_tellCell_50 ?_
          refine lv_istore (lv' := [(5, .int (C.2.2.1 j)), (0, .ref (s 0)), (1, .int (nI j)), (2, .int h), (3, .int w), (4, .int t)]) zx zb dX8_tellCell_51 hl (by decide) rfl (fun ls hl => ?_)
          refine lv_aload_n zx zb dX8_tellCell_53 rfl (lv_at hl 1 rfl) ?_
          refine g_get (v := .ref (c 0)) XX hP 0 0 rfl rfl rfl iwX8 0 (by decide) fl_X8_27 rfl dX8_tellCell_54 ?_
          refine lv_iload_n zx zb dX8_tellCell_57 rfl (lv_at hl 2 rfl) ?_
          refine lv_iload_n zx zb dX8_tellCell_58 rfl (lv_at hl 3 rfl) ?_
          refine lv_iload_n zx zb dX8_tellCell_59 rfl (lv_at hl 4 rfl) ?_
          refine lv_iload zx zb dX8_tellCell_60 (lv_at hl 5 rfl) ?_
          refine call_Vv (As := [.int (nI j), .int h, .int w, .int t]) (rest := []) XX cv_X8_69 (c_X2_setCell Γ l c k C j h w t (by omega)) hP hD hS hA [1] (by decide) rfl (fun _ => rfl) 1 0 rfl rfl rfl rfl hl.1 rfl ⟨⟨by decide, by decide⟩, by decide, by decide⟩ (Nat.le_of_ble_eq_true rfl) dX8_tellCell_62 (fun u H locs hw hP hD hS => ?_)
          have hw := hw.symm
          subst hw
          have hP : bP Γ [bSt Γ s c y p pc, bCo Γ c k (coSetCell C j h w t), bYr Γ y Y] H := hP
          have hD : bD AA [bSt Γ s c y p pc, bCo Γ c k (coSetCell C j h w t), bYr Γ y Y] := hD
          refine lv_aload_n zx zb dX8_tellCell_65 rfl (lv_at hl 1 rfl) ?_
          refine g_get (v := .ref (y 0)) XX hP 0 0 rfl rfl rfl iwX8 1 (by decide) fl_X8_12 rfl dX8_tellCell_66 ?_
          refine g_get (v := .ref (y 2)) XX hP 2 0 rfl rfl rfl iwX10 4 (by decide) fl_X8_73 rfl dX8_tellCell_69 ?_
          refine lv_iload_n zx zb dX8_tellCell_72 rfl (lv_at hl 2 rfl) ?_
          refine lv_iconst (v := nI 0) zx zb dX8_tellCell_73 (by decide) ?_
          refine g_iastN (x := nI 0) (i := j) (blk' := bYr Γ y (Y.1, Y.2.1, Y.2.2.1, Y.2.2.2.1, upd Y.2.2.2.2 j (nI 0))) (bs' := [bSt Γ s c y p pc, bCo Γ c k (coSetCell C j h w t), bYr Γ y (Y.1, Y.2.1, Y.2.2.1, Y.2.2.2.1, upd Y.2.2.2.2 j (nI 0))]) XX hP hD hS 2 2 rfl rfl (by omega) (by decide) rfl rfl dX8_tellCell_74 (fun H locs hP hD hS => ?_)
          refine lv_iload zx zb dX8_tellCell_75 (lv_at hl 0 rfl) ?_
          exact fin _ _ (C.2.2.1 j) ((coSetCell C j h w t), (Y.1, Y.2.1, Y.2.2.1, Y.2.2.2.1, upd Y.2.2.2.2 j (nI 0))) 77 _ dX8_tellCell_77 (fun h => by cases h) ⟨(by simp only [tCeR, okCell, c_5, c_15, c_28, c_36, Bool.and_self, if_true]; rw [nI_clamp (by omega)]), (by simp only [tCe, okCell, c_5, c_15, c_28, c_36, Bool.and_self, if_true]; rw [nI_clamp (by omega)]; rfl)⟩ hP hD hS
        · have c_36 : (wi t 0 2) = false := bI_0.mp c_36
          refine lv_bipush (v := (-2)) zx zb dX8_tellCell_39 (by decide) ?_
          exact fin _ _ (-2) (C, Y) 41 _ dX8_tellCell_41 (fun h => by cases h) ⟨(by simp [tCeR, okCell, c_5, c_15, c_28, c_36]), (by simp [tCe, okCell, c_5, c_15, c_28, c_36])⟩ hP hD hS
    · have c_15 : (wi h 0 9) = false := bI_0.mp c_15
      refine lv_bipush (v := (-2)) zx zb dX8_tellCell_18 (by decide) ?_
      exact fin _ _ (-2) (C, Y) 20 _ dX8_tellCell_20 (fun h => by cases h) ⟨(by simp [tCeR, okCell, c_5, c_15]), (by simp [tCe, okCell, c_5, c_15])⟩ hP hD hS

set_option maxHeartbeats 4000000 in
set_option maxRecDepth 100000 in
theorem c_X8_tellDike (Γ : GG) (l : Launch) (s : Nat → Nat) (c : Nat → Nat) (k : Nat → Nat) (y : Nat → Nat) (p : Nat → Nat → Nat) (pc : Nat) (C : CoV) (Y : YrV) (x : Int32) (n : Int32) (hn : C.1 ≤ 8) : Ci Γ l yX8_tellDike cX8_tellDike 4 (some (.int)) 2 43 0 0 [.ref (s 0), .int x, .int n] [bSt Γ s c y p pc, bCo Γ c k C, bYr Γ y Y] (fun (r : Int32) (u : YrV) => r = tDiR C Y x n ∧ u = tDi C Y x n) (fun (u : YrV) => [bSt Γ s c y p pc, bCo Γ c k C, bYr Γ y u]) := by
  refine Ci.of (Or.inl rfl) (by decide) (Nat.le_of_ble_eq_true rfl) ?_
  intro pp ee ss mm bb me cd AA QQ XX hnm hA hP hD fin ls hl
  obtain ⟨zx, zb, hml, hown, hts, hK⟩ := id XX
  have hS : va_S AA ss.heap ss.heap [] := va_S.rf
  have hl : lv_has ls 4 [(0, .ref (s 0)), (1, .int x), (2, .int n)] := hl
  refine lv_aload_n zx zb dX8_tellDike_0 rfl (lv_at hl 0 rfl) ?_
  refine lv_iload_n zx zb dX8_tellDike_1 rfl (lv_at hl 1 rfl) ?_
  refine call_Vi (As := [.int x]) (rest := []) XX cv_X8_58 (c_X8_isCellOfIt Γ l s c k y p pc C x ) hP hD hS hA [0, 1] (by decide) rfl (fun _ => rfl) 0 0 rfl rfl rfl rfl hl.1 rfl ⟨⟨by decide, by decide⟩, by decide, by decide⟩ (Nat.le_of_ble_eq_true rfl) dX8_tellDike_2 (fun r_2 u H locs hw hP hD hS => ?_)
  have hw := hw.symm
  subst hw
  have hP : bP Γ [bSt Γ s c y p pc, bCo Γ c k C, bYr Γ y Y] H := hP
  have hD : bD AA [bSt Γ s c y p pc, bCo Γ c k C, bYr Γ y Y] := hD
  refine lv_if_eq (tgt := 18) zx zb dX8_tellDike_5 (by decide) (fun c_5 => ?_) (fun c_5 => ?_)
  · have c_5 : (stCell C x) = false := bI_0.mp c_5
    refine lv_bipush (v := (-2)) zx zb dX8_tellDike_18 (by decide) ?_
    exact fin _ _ (-2) Y 20 _ dX8_tellDike_20 (fun h => by cases h) ⟨(by simp [tDiR, okDike, c_5]), (by simp [tDi, okDike, c_5])⟩ hP hD hS
  · have c_5 : (stCell C x) = true := bI_ne c_5
    refine lv_iload_n zx zb dX8_tellDike_8 rfl (lv_at hl 2 rfl) ?_
    refine lv_iconst (v := nI 0) zx zb dX8_tellDike_9 (by decide) ?_
    refine lv_bipush (v := nI 9) zx zb dX8_tellDike_10 (by decide) ?_
    refine callR_SNi (As := [.int n, .int (nI 0), .int (nI 9)]) (rest := []) XX cn_X8_54 (c_X11_within Γ l n 0 9 ) hP hD hS hA nil_mem nil_D rfl hl.1 rfl ⟨⟨by decide, by decide⟩, by decide, by decide⟩ (Nat.le_of_ble_eq_true rfl) dX8_tellDike_12 (fun r_12 H locs hw hP hS => ?_)
    have hw := hw.symm
    subst hw
    refine lv_if_ne (tgt := 21) zx zb dX8_tellDike_15 (by decide) (fun c_15 => ?_) (fun c_15 => ?_)
    · have c_15 : (wi n 0 9) = true := bI_ne c_15
      obtain ⟨j, hj, rfl⟩ := cell_nat c_5 hn
      refine lv_aload_n zx zb dX8_tellDike_21 rfl (lv_at hl 0 rfl) ?_
      refine g_get (v := .ref (y 0)) XX hP 0 0 rfl rfl rfl iwX8 1 (by decide) fl_X8_12 rfl dX8_tellDike_22 ?_
      refine g_get (v := .ref (y 1)) XX hP 2 0 rfl rfl rfl iwX10 3 (by decide) fl_X8_76 rfl dX8_tellDike_25 ?_
      refine lv_iload_n zx zb dX8_tellDike_28 rfl (lv_at hl 1 rfl) ?_
      refine g_ialdN (i := j) XX hP 2 1 rfl rfl (by omega) (by decide) dX8_tellDike_29 ?_
      refine lv_istore_n (lv' := [(3, .int (Y.2.2.2.1 j)), (0, .ref (s 0)), (1, .int (nI j)), (2, .int n)]) zx zb dX8_tellDike_30 rfl hl (by decide) rfl (fun ls hl => ?_)
      refine lv_aload_n zx zb dX8_tellDike_31 rfl (lv_at hl 1 rfl) ?_
      refine g_get (v := .ref (y 0)) XX hP 0 0 rfl rfl rfl iwX8 1 (by decide) fl_X8_12 rfl dX8_tellDike_32 ?_
      refine g_get (v := .ref (y 1)) XX hP 2 0 rfl rfl rfl iwX10 3 (by decide) fl_X8_76 rfl dX8_tellDike_35 ?_
      refine lv_iload_n zx zb dX8_tellDike_38 rfl (lv_at hl 2 rfl) ?_
      refine lv_iload_n zx zb dX8_tellDike_39 rfl (lv_at hl 3 rfl) ?_
      refine g_iastN (x := n) (i := j) (blk' := bYr Γ y (Y.1, Y.2.1, Y.2.2.1, upd Y.2.2.2.1 j n, Y.2.2.2.2)) (bs' := [bSt Γ s c y p pc, bCo Γ c k C, bYr Γ y (Y.1, Y.2.1, Y.2.2.1, upd Y.2.2.2.1 j n, Y.2.2.2.2)]) XX hP hD hS 2 1 rfl rfl (by omega) (by decide) rfl rfl dX8_tellDike_40 (fun H locs hP hD hS => ?_)
      refine lv_iload_n zx zb dX8_tellDike_41 rfl (lv_at hl 0 rfl) ?_
      exact fin _ _ (Y.2.2.2.1 j) (Y.1, Y.2.1, Y.2.2.1, upd Y.2.2.2.1 j n, Y.2.2.2.2) 42 _ dX8_tellDike_42 (fun h => by cases h) ⟨(by simp only [tDiR, okDike, c_5, c_15, Bool.and_self, if_true]; rw [nI_clamp (by omega)]), (by simp only [tDi, okDike, c_5, c_15, Bool.and_self, if_true]; rw [nI_clamp (by omega)])⟩ hP hD hS
    · have c_15 : (wi n 0 9) = false := bI_0.mp c_15
      refine lv_bipush (v := (-2)) zx zb dX8_tellDike_18 (by decide) ?_
      exact fin _ _ (-2) Y 20 _ dX8_tellDike_20 (fun h => by cases h) ⟨(by simp [tDiR, okDike, c_5, c_15]), (by simp [tDi, okDike, c_5, c_15])⟩ hP hD hS

set_option maxHeartbeats 4000000 in
set_option maxRecDepth 100000 in
theorem c_X8_tellWant (Γ : GG) (l : Launch) (s : Nat → Nat) (c : Nat → Nat) (k : Nat → Nat) (y : Nat → Nat) (p : Nat → Nat → Nat) (pc : Nat) (C : CoV) (x : Int32) (n : Int32)  : Ci Γ l yX8_tellWant cX8_tellWant 4 (some (.int)) 1 22 0 0 [.ref (s 0), .int x, .int n] [bSt Γ s c y p pc, bCo Γ c k C] (fun (r : Int32) (u : CoV) => r = tWaR C x n ∧ u = tWa C x n) (fun (u : CoV) => [bSt Γ s c y p pc, bCo Γ c k u]) := by
  refine Ci.of (Or.inl rfl) (by decide) (Nat.le_of_ble_eq_true rfl) ?_
  intro pp ee ss mm bb me cd AA QQ XX hnm hA hP hD fin ls hl
  obtain ⟨zx, zb, hml, hown, hts, hK⟩ := id XX
  have hS : va_S AA ss.heap ss.heap [] := va_S.rf
  have hl : lv_has ls 4 [(0, .ref (s 0)), (1, .int x), (2, .int n)] := hl
  refine lv_iload_n zx zb dX8_tellWant_0 rfl (lv_at hl 1 rfl) ?_
  refine lv_iconst (v := nI 0) zx zb dX8_tellWant_1 (by decide) ?_
  refine lv_bipush (v := nI 7) zx zb dX8_tellWant_2 (by decide) ?_
  refine callR_SNi (As := [.int x, .int (nI 0), .int (nI 7)]) (rest := []) XX cn_X8_54 (c_X11_within Γ l x 0 7 ) hP hD hS hA nil_mem nil_D rfl hl.1 rfl ⟨⟨by decide, by decide⟩, by decide, by decide⟩ (Nat.le_of_ble_eq_true rfl) dX8_tellWant_4 (fun r_4 H locs hw hP hS => ?_)
  have hw := hw.symm
  subst hw
  refine lv_if_eq (tgt := 20) zx zb dX8_tellWant_7 (by decide) (fun c_7 => ?_) (fun c_7 => ?_)
  · have c_7 : (wi x 0 7) = false := bI_0.mp c_7
    refine lv_bipush (v := (-2)) zx zb dX8_tellWant_20 (by decide) ?_
    exact fin _ _ (-2) C 22 _ dX8_tellWant_22 (fun h => by cases h) ⟨(by simp [tWaR, okWant, c_7]), (by simp [tWa, okWant, c_7])⟩ hP hD hS
  · have c_7 : (wi x 0 7) = true := bI_ne c_7
    refine lv_iload_n zx zb dX8_tellWant_10 rfl (lv_at hl 2 rfl) ?_
    refine lv_iconst (v := nI 0) zx zb dX8_tellWant_11 (by decide) ?_
    refine lv_bipush (v := nI 15) zx zb dX8_tellWant_12 (by decide) ?_
    refine callR_SNi (As := [.int n, .int (nI 0), .int (nI 15)]) (rest := []) XX cn_X8_54 (c_X11_within Γ l n 0 15 ) hP hD hS hA nil_mem nil_D rfl hl.1 rfl ⟨⟨by decide, by decide⟩, by decide, by decide⟩ (Nat.le_of_ble_eq_true rfl) dX8_tellWant_14 (fun r_14 H locs hw hP hS => ?_)
    have hw := hw.symm
    subst hw
    refine lv_if_ne (tgt := 23) zx zb dX8_tellWant_17 (by decide) (fun c_17 => ?_) (fun c_17 => ?_)
    · have c_17 : (wi n 0 15) = true := bI_ne c_17
      obtain ⟨j, hj, rfl⟩ := wi_nat 0 7 c_7 rfl rfl (by decide)
      refine lv_aload_n zx zb dX8_tellWant_23 rfl (lv_at hl 0 rfl) ?_
      refine g_get (v := .ref (c 0)) XX hP 0 0 rfl rfl rfl iwX8 0 (by decide) fl_X8_27 rfl dX8_tellWant_24 ?_
      refine g_get (v := .ref (c 4)) XX hP 1 0 rfl rfl rfl iwX2 6 (by decide) fl_X8_79 rfl dX8_tellWant_27 ?_
      refine lv_iload_n zx zb dX8_tellWant_30 rfl (lv_at hl 1 rfl) ?_
      refine g_ialdN (i := j) XX hP 1 4 rfl rfl (by omega) (by decide) dX8_tellWant_31 ?_
      refine lv_istore_n (lv' := [(3, .int (C.2.2.2.2.2.1 j)), (0, .ref (s 0)), (1, .int (nI j)), (2, .int n)]) zx zb dX8_tellWant_32 rfl hl (by decide) rfl (fun ls hl => ?_)
      refine lv_aload_n zx zb dX8_tellWant_33 rfl (lv_at hl 1 rfl) ?_
      refine g_get (v := .ref (c 0)) XX hP 0 0 rfl rfl rfl iwX8 0 (by decide) fl_X8_27 rfl dX8_tellWant_34 ?_
      refine g_get (v := .ref (c 4)) XX hP 1 0 rfl rfl rfl iwX2 6 (by decide) fl_X8_79 rfl dX8_tellWant_37 ?_
      refine lv_iload_n zx zb dX8_tellWant_40 rfl (lv_at hl 2 rfl) ?_
      refine lv_iload_n zx zb dX8_tellWant_41 rfl (lv_at hl 3 rfl) ?_
      refine g_iastN (x := n) (i := j) (blk' := bCo Γ c k (C.1, C.2.1, C.2.2.1, C.2.2.2.1, C.2.2.2.2.1, upd C.2.2.2.2.2.1 j n, C.2.2.2.2.2.2.1, C.2.2.2.2.2.2.2.1, C.2.2.2.2.2.2.2.2.1, C.2.2.2.2.2.2.2.2.2.1, C.2.2.2.2.2.2.2.2.2.2)) (bs' := [bSt Γ s c y p pc, bCo Γ c k (C.1, C.2.1, C.2.2.1, C.2.2.2.1, C.2.2.2.2.1, upd C.2.2.2.2.2.1 j n, C.2.2.2.2.2.2.1, C.2.2.2.2.2.2.2.1, C.2.2.2.2.2.2.2.2.1, C.2.2.2.2.2.2.2.2.2.1, C.2.2.2.2.2.2.2.2.2.2)]) XX hP hD hS 1 4 rfl rfl (by omega) (by decide) rfl rfl dX8_tellWant_42 (fun H locs hP hD hS => ?_)
      refine lv_iload_n zx zb dX8_tellWant_43 rfl (lv_at hl 0 rfl) ?_
      exact fin _ _ (C.2.2.2.2.2.1 j) (C.1, C.2.1, C.2.2.1, C.2.2.2.1, C.2.2.2.2.1, upd C.2.2.2.2.2.1 j n, C.2.2.2.2.2.2.1, C.2.2.2.2.2.2.2.1, C.2.2.2.2.2.2.2.2.1, C.2.2.2.2.2.2.2.2.2.1, C.2.2.2.2.2.2.2.2.2.2) 44 _ dX8_tellWant_44 (fun h => by cases h) ⟨(by simp only [tWaR, okWant, c_7, c_17, Bool.and_self, if_true]; rw [nI_clamp (by omega)]), (by simp only [tWa, okWant, c_7, c_17, Bool.and_self, if_true]; rw [nI_clamp (by omega)])⟩ hP hD hS
    · have c_17 : (wi n 0 15) = false := bI_0.mp c_17
      refine lv_bipush (v := (-2)) zx zb dX8_tellWant_20 (by decide) ?_
      exact fin _ _ (-2) C 22 _ dX8_tellWant_22 (fun h => by cases h) ⟨(by simp [tWaR, okWant, c_7, c_17]), (by simp [tWa, okWant, c_7, c_17])⟩ hP hD hS

set_option maxHeartbeats 4000000 in
set_option maxRecDepth 100000 in
theorem c_X8_tellMoon (Γ : GG) (l : Launch) (s : Nat → Nat) (c : Nat → Nat) (k : Nat → Nat) (y : Nat → Nat) (p : Nat → Nat → Nat) (pc : Nat) (C : CoV) (n : Int32)  : Ci Γ l yX8_tellMoon cX8_tellMoon 3 (some (.int)) 1 22 0 0 [.ref (s 0), .int n] [bSt Γ s c y p pc, bCo Γ c k C] (fun (r : Int32) (u : CoV) => r = tMoR C n ∧ u = tMo C n) (fun (u : CoV) => [bSt Γ s c y p pc, bCo Γ c k u]) := by
  refine Ci.of (Or.inl rfl) (by decide) (Nat.le_of_ble_eq_true rfl) ?_
  intro pp ee ss mm bb me cd AA QQ XX hnm hA hP hD fin ls hl
  obtain ⟨zx, zb, hml, hown, hts, hK⟩ := id XX
  have hS : va_S AA ss.heap ss.heap [] := va_S.rf
  have hl : lv_has ls 3 [(0, .ref (s 0)), (1, .int n)] := hl
  refine lv_iload_n zx zb dX8_tellMoon_0 rfl (lv_at hl 1 rfl) ?_
  refine lv_iconst (v := nI 1) zx zb dX8_tellMoon_1 (by decide) ?_
  refine lv_bipush (v := nI 9) zx zb dX8_tellMoon_2 (by decide) ?_
  refine callR_SNi (As := [.int n, .int (nI 1), .int (nI 9)]) (rest := []) XX cn_X8_54 (c_X11_within Γ l n 1 9 ) hP hD hS hA nil_mem nil_D rfl hl.1 rfl ⟨⟨by decide, by decide⟩, by decide, by decide⟩ (Nat.le_of_ble_eq_true rfl) dX8_tellMoon_4 (fun r_4 H locs hw hP hS => ?_)
  have hw := hw.symm
  subst hw
  refine lv_if_ne (tgt := 13) zx zb dX8_tellMoon_7 (by decide) (fun c_7 => ?_) (fun c_7 => ?_)
  · have c_7 : (wi n 1 9) = true := bI_ne c_7
    refine lv_aload_n zx zb dX8_tellMoon_13 rfl (lv_at hl 0 rfl) ?_
    refine g_get (v := .ref (c 0)) XX hP 0 0 rfl rfl rfl iwX8 0 (by decide) fl_X8_27 rfl dX8_tellMoon_14 ?_
    refine g_get (v := .int C.2.1) XX hP 1 0 rfl rfl rfl iwX2 2 (by decide) fl_X8_82 rfl dX8_tellMoon_17 ?_
    refine lv_istore_n (lv' := [(2, .int C.2.1), (0, .ref (s 0)), (1, .int n)]) zx zb dX8_tellMoon_20 rfl hl (by decide) rfl (fun ls hl => ?_)
    refine lv_aload_n zx zb dX8_tellMoon_21 rfl (lv_at hl 1 rfl) ?_
    refine g_get (v := .ref (c 0)) XX hP 0 0 rfl rfl rfl iwX8 0 (by decide) fl_X8_27 rfl dX8_tellMoon_22 ?_
    refine lv_iload_n zx zb dX8_tellMoon_25 rfl (lv_at hl 2 rfl) ?_
    refine g_put (v := .int n) (blk' := bCo Γ c k (C.1, n, C.2.2.1, C.2.2.2.1, C.2.2.2.2.1, C.2.2.2.2.2.1, C.2.2.2.2.2.2.1, C.2.2.2.2.2.2.2.1, C.2.2.2.2.2.2.2.2.1, C.2.2.2.2.2.2.2.2.2.1, C.2.2.2.2.2.2.2.2.2.2)) (bs' := [bSt Γ s c y p pc, bCo Γ c k (C.1, n, C.2.2.1, C.2.2.2.1, C.2.2.2.2.1, C.2.2.2.2.2.1, C.2.2.2.2.2.2.1, C.2.2.2.2.2.2.2.1, C.2.2.2.2.2.2.2.2.1, C.2.2.2.2.2.2.2.2.2.1, C.2.2.2.2.2.2.2.2.2.2)]) XX hP hD hS 1 0 rfl rfl rfl iwX2 tyX2_ok nmX2 2 (by decide) fl_X8_82 rfl rfl rfl (Nat.le_of_ble_eq_true rfl) rfl rfl rfl dX8_tellMoon_26 (fun H locs hP hD hS => ?_)
    refine lv_iload_n zx zb dX8_tellMoon_29 rfl (lv_at hl 0 rfl) ?_
    exact fin _ _ C.2.1 (C.1, n, C.2.2.1, C.2.2.2.1, C.2.2.2.2.1, C.2.2.2.2.2.1, C.2.2.2.2.2.2.1, C.2.2.2.2.2.2.2.1, C.2.2.2.2.2.2.2.2.1, C.2.2.2.2.2.2.2.2.2.1, C.2.2.2.2.2.2.2.2.2.2) 30 _ dX8_tellMoon_30 (fun h => by cases h) ⟨(by simp [tMoR, c_7]), (by simp [tMo, c_7])⟩ hP hD hS
  · have c_7 : (wi n 1 9) = false := bI_0.mp c_7
    refine lv_bipush (v := (-2)) zx zb dX8_tellMoon_10 (by decide) ?_
    exact fin _ _ (-2) C 12 _ dX8_tellMoon_12 (fun h => by cases h) ⟨(by simp [tMoR, c_7]), (by simp [tMo, c_7])⟩ hP hD hS

set_option maxHeartbeats 4000000 in
set_option maxRecDepth 100000 in
theorem c_X8_tellTreaty (Γ : GG) (l : Launch) (s : Nat → Nat) (c : Nat → Nat) (k : Nat → Nat) (y : Nat → Nat) (p : Nat → Nat → Nat) (pc : Nat) (C : CoV) (tr : Nat → TrV) (d : Int32) (a : Int32) (b : Int32) (f : Int32) (t : Int32) (q : Int32) (htc : C.2.2.2.2.2.2.1 ≤ 6) : Ci Γ l yX8_tellTreaty cX8_tellTreaty 7 (some (.int)) 4 90 0 0 [.ref (s 0), .int d, .int a, .int b, .int f, .int t, .int q] [bSt Γ s c y p pc, bCo Γ c k C, bTs Γ c k tr, bKd Γ k] (fun (r : Int32) (u : CoV × (Nat → TrV)) => r = tTrR C d a b f t q ∧ u = tTr C tr d a b f t q) (fun (u : CoV × (Nat → TrV)) => [bSt Γ s c y p pc, bCo Γ c k u.1, bTs Γ c k u.2, bKd Γ k]) := by
  refine Ci.of (Or.inl rfl) (by decide) (Nat.le_of_ble_eq_true rfl) ?_
  intro pp ee ss mm bb me cd AA QQ XX hnm hA hP hD fin ls hl
  obtain ⟨zx, zb, hml, hown, hts, hK⟩ := id XX
  have hS : va_S AA ss.heap ss.heap [] := va_S.rf
  have hl : lv_has ls 7 [(0, .ref (s 0)), (1, .int d), (2, .int a), (3, .int b), (4, .int f), (5, .int t), (6, .int q)] := hl
  refine lv_iload_n zx zb dX8_tellTreaty_0 rfl (lv_at hl 1 rfl) ?_
  refine lv_iconst (v := nI 0) zx zb dX8_tellTreaty_1 (by decide) ?_
  refine lv_iconst (v := nI 5) zx zb dX8_tellTreaty_2 (by decide) ?_
  refine callR_SNi (As := [.int d, .int (nI 0), .int (nI 5)]) (rest := []) XX cn_X8_54 (c_X11_within Γ l d 0 5 ) hP hD hS hA nil_mem nil_D rfl hl.1 rfl ⟨⟨by decide, by decide⟩, by decide, by decide⟩ (Nat.le_of_ble_eq_true rfl) dX8_tellTreaty_3 (fun r_3 H locs hw hP hS => ?_)
  have hw := hw.symm
  subst hw
  refine lv_if_eq (tgt := 20) zx zb dX8_tellTreaty_6 (by decide) (fun c_6 => ?_) (fun c_6 => ?_)
  · have c_6 : (wi d 0 5) = false := bI_0.mp c_6
    refine lv_bipush (v := (-2)) zx zb dX8_tellTreaty_20 (by decide) ?_
    exact fin _ _ (-2) (C, tr) 22 _ dX8_tellTreaty_22 (fun h => by cases h) ⟨(by simp [tTrR, okTr, c_6]), (by simp [tTr, okTr, c_6])⟩ hP hD hS
  · have c_6 : (wi d 0 5) = true := bI_ne c_6
    refine lv_iload zx zb dX8_tellTreaty_9 (lv_at hl 6 rfl) ?_
    refine lv_iconst (v := nI 0) zx zb dX8_tellTreaty_11 (by decide) ?_
    refine lv_bipush (v := nI 20) zx zb dX8_tellTreaty_12 (by decide) ?_
    refine callR_SNi (As := [.int q, .int (nI 0), .int (nI 20)]) (rest := []) XX cn_X8_54 (c_X11_within Γ l q 0 20 ) hP hD hS hA nil_mem nil_D rfl hl.1 rfl ⟨⟨by decide, by decide⟩, by decide, by decide⟩ (Nat.le_of_ble_eq_true rfl) dX8_tellTreaty_14 (fun r_14 H locs hw hP hS => ?_)
    have hw := hw.symm
    subst hw
    refine lv_if_ne (tgt := 23) zx zb dX8_tellTreaty_17 (by decide) (fun c_17 => ?_) (fun c_17 => ?_)
    · have c_17 : (wi q 0 20) = true := bI_ne c_17
      refine lv_aload_n zx zb dX8_tellTreaty_23 rfl (lv_at hl 0 rfl) ?_
      refine lv_iload_n zx zb dX8_tellTreaty_24 rfl (lv_at hl 2 rfl) ?_
      refine call_Vi (As := [.int a]) (rest := []) XX cv_X8_58 (c_X8_isCellOfIt Γ l s c k y p pc C a ) hP hD hS hA [0, 1] (by decide) rfl (fun _ => rfl) 0 0 rfl rfl rfl rfl hl.1 rfl ⟨⟨by decide, by decide⟩, by decide, by decide⟩ (Nat.le_of_ble_eq_true rfl) dX8_tellTreaty_25 (fun r_25 u H locs hw hP hD hS => ?_)
      have hw := hw.symm
      subst hw
      have hP : bP Γ [bSt Γ s c y p pc, bCo Γ c k C, bTs Γ c k tr, bKd Γ k] H := hP
      have hD : bD AA [bSt Γ s c y p pc, bCo Γ c k C, bTs Γ c k tr, bKd Γ k] := hD
      refine lv_if_eq (tgt := 44) zx zb dX8_tellTreaty_28 (by decide) (fun c_28 => ?_) (fun c_28 => ?_)
      · have c_28 : (stCell C a) = false := bI_0.mp c_28
        refine lv_bipush (v := (-2)) zx zb dX8_tellTreaty_44 (by decide) ?_
        exact fin _ _ (-2) (C, tr) 46 _ dX8_tellTreaty_46 (fun h => by cases h) ⟨(by simp [tTrR, okTr, c_6, c_17, c_28]), (by simp [tTr, okTr, c_6, c_17, c_28])⟩ hP hD hS
      · have c_28 : (stCell C a) = true := bI_ne c_28
        refine lv_aload_n zx zb dX8_tellTreaty_31 rfl (lv_at hl 0 rfl) ?_
        refine lv_iload_n zx zb dX8_tellTreaty_32 rfl (lv_at hl 3 rfl) ?_
        refine call_Vi (As := [.int b]) (rest := []) XX cv_X8_58 (c_X8_isCellOfIt Γ l s c k y p pc C b ) hP hD hS hA [0, 1] (by decide) rfl (fun _ => rfl) 0 0 rfl rfl rfl rfl hl.1 rfl ⟨⟨by decide, by decide⟩, by decide, by decide⟩ (Nat.le_of_ble_eq_true rfl) dX8_tellTreaty_33 (fun r_33 u H locs hw hP hD hS => ?_)
        have hw := hw.symm
        subst hw
        have hP : bP Γ [bSt Γ s c y p pc, bCo Γ c k C, bTs Γ c k tr, bKd Γ k] H := hP
        have hD : bD AA [bSt Γ s c y p pc, bCo Γ c k C, bTs Γ c k tr, bKd Γ k] := hD
        refine lv_if_eq (tgt := 44) zx zb dX8_tellTreaty_36 (by decide) (fun c_36 => ?_) (fun c_36 => ?_)
        · have c_36 : (stCell C b) = false := bI_0.mp c_36
          refine lv_bipush (v := (-2)) zx zb dX8_tellTreaty_44 (by decide) ?_
          exact fin _ _ (-2) (C, tr) 46 _ dX8_tellTreaty_46 (fun h => by cases h) ⟨(by simp [tTrR, okTr, c_6, c_17, c_28, c_36]), (by simp [tTr, okTr, c_6, c_17, c_28, c_36])⟩ hP hD hS
        · have c_36 : (stCell C b) = true := bI_ne c_36
          refine lv_iload_n zx zb dX8_tellTreaty_39 rfl (lv_at hl 2 rfl) ?_
          refine lv_iload_n zx zb dX8_tellTreaty_40 rfl (lv_at hl 3 rfl) ?_
          refine lv_icmp_le (tgt := 47) zx zb dX8_tellTreaty_41 (by decide) (fun c_41 => ?_) (fun c_41 => ?_)
          · have c_41 : a ≤ b := c_41
            refine lv_iload zx zb dX8_tellTreaty_47 (lv_at hl 4 rfl) ?_
            refine lv_iconst (v := nI 0) zx zb dX8_tellTreaty_49 (by decide) ?_
            refine lv_bipush (v := nI 99) zx zb dX8_tellTreaty_50 (by decide) ?_
            refine callR_SNi (As := [.int f, .int (nI 0), .int (nI 99)]) (rest := []) XX cn_X8_54 (c_X11_within Γ l f 0 99 ) hP hD hS hA nil_mem nil_D rfl hl.1 rfl ⟨⟨by decide, by decide⟩, by decide, by decide⟩ (Nat.le_of_ble_eq_true rfl) dX8_tellTreaty_52 (fun r_52 H locs hw hP hS => ?_)
            have hw := hw.symm
            subst hw
            refine lv_if_eq (tgt := 69) zx zb dX8_tellTreaty_55 (by decide) (fun c_55 => ?_) (fun c_55 => ?_)
            · have c_55 : (wi f 0 99) = false := bI_0.mp c_55
              refine lv_bipush (v := (-2)) zx zb dX8_tellTreaty_69 (by decide) ?_
              exact fin _ _ (-2) (C, tr) 71 _ dX8_tellTreaty_71 (fun h => by cases h) ⟨(by simp [tTrR, okTr, c_6, c_17, c_28, c_36, c_41, c_55]), (by simp [tTr, okTr, c_6, c_17, c_28, c_36, c_41, c_55])⟩ hP hD hS
            · have c_55 : (wi f 0 99) = true := bI_ne c_55
              refine lv_iload zx zb dX8_tellTreaty_58 (lv_at hl 5 rfl) ?_
              refine lv_iconst (v := nI 0) zx zb dX8_tellTreaty_60 (by decide) ?_
              refine lv_bipush (v := nI 99) zx zb dX8_tellTreaty_61 (by decide) ?_
              refine callR_SNi (As := [.int t, .int (nI 0), .int (nI 99)]) (rest := []) XX cn_X8_54 (c_X11_within Γ l t 0 99 ) hP hD hS hA nil_mem nil_D rfl hl.1 rfl ⟨⟨by decide, by decide⟩, by decide, by decide⟩ (Nat.le_of_ble_eq_true rfl) dX8_tellTreaty_63 (fun r_63 H locs hw hP hS => ?_)
              have hw := hw.symm
              subst hw
              refine lv_if_ne (tgt := 72) zx zb dX8_tellTreaty_66 (by decide) (fun c_66 => ?_) (fun c_66 => ?_)
              · have c_66 : (wi t 0 99) = true := bI_ne c_66
                obtain ⟨j, hj, rfl⟩ := wi_nat 0 5 c_6 rfl rfl (by decide)
                refine lv_aload_n zx zb dX8_tellTreaty_72 rfl (lv_at hl 0 rfl) ?_
                refine g_get (v := .ref (c 0)) XX hP 0 0 rfl rfl rfl iwX8 0 (by decide) fl_X8_27 rfl dX8_tellTreaty_73 ?_
                refine lv_iload_n zx zb dX8_tellTreaty_76 rfl (lv_at hl 1 rfl) ?_
                refine lv_iload_n zx zb dX8_tellTreaty_77 rfl (lv_at hl 2 rfl) ?_
                refine lv_iload_n zx zb dX8_tellTreaty_78 rfl (lv_at hl 3 rfl) ?_
                refine lv_iload zx zb dX8_tellTreaty_79 (lv_at hl 4 rfl) ?_
                refine lv_iload zx zb dX8_tellTreaty_81 (lv_at hl 5 rfl) ?_
                refine lv_iload zx zb dX8_tellTreaty_83 (lv_at hl 6 rfl) ?_
                refine call_Vi (As := [.int (nI j), .int a, .int b, .int f, .int t, .int q]) (rest := []) XX cv_X8_85 (c_X2_addTreaty Γ l c k C tr j a b f t q (htc) (by omega)) hP hD hS hA [1, 2, 3] (by decide) rfl (fun _ => rfl) 1 0 rfl rfl rfl rfl hl.1 rfl ⟨⟨by decide, by decide⟩, by decide, by decide⟩ (Nat.le_of_ble_eq_true rfl) dX8_tellTreaty_85 (fun r_85 u H locs hw hP hD hS => ?_)
                obtain ⟨hw1, hw2⟩ := hw
                have hw1 := hw1.symm
                have hw2 := hw2.symm
                subst hw1
                subst hw2
                have hP : bP Γ [bSt Γ s c y p pc, bCo Γ c k ((coAdd C tr j a b f t q).1), bTs Γ c k ((coAdd C tr j a b f t q).2), bKd Γ k] H := hP
                have hD : bD AA [bSt Γ s c y p pc, bCo Γ c k ((coAdd C tr j a b f t q).1), bTs Γ c k ((coAdd C tr j a b f t q).2), bKd Γ k] := hD
                exact fin _ _ (coAddR C) ((coAdd C tr j a b f t q).1, (coAdd C tr j a b f t q).2) 88 _ dX8_tellTreaty_88 (fun h => by cases h) ⟨(by simp only [tTrR, okTr, c_6, c_17, c_28, c_36, c_41, c_55, c_66, decide_true, Bool.and_self, if_true]), (by simp only [tTr, okTr, c_6, c_17, c_28, c_36, c_41, c_55, c_66, decide_true, Bool.and_self, if_true]; rw [nI_clamp (by omega)])⟩ hP hD hS
              · have c_66 : (wi t 0 99) = false := bI_0.mp c_66
                refine lv_bipush (v := (-2)) zx zb dX8_tellTreaty_69 (by decide) ?_
                exact fin _ _ (-2) (C, tr) 71 _ dX8_tellTreaty_71 (fun h => by cases h) ⟨(by simp [tTrR, okTr, c_6, c_17, c_28, c_36, c_41, c_55, c_66]), (by simp [tTr, okTr, c_6, c_17, c_28, c_36, c_41, c_55, c_66])⟩ hP hD hS
          · have c_41 : ¬ (a ≤ b) := c_41
            refine lv_bipush (v := (-2)) zx zb dX8_tellTreaty_44 (by decide) ?_
            exact fin _ _ (-2) (C, tr) 46 _ dX8_tellTreaty_46 (fun h => by cases h) ⟨(by simp [tTrR, okTr, c_6, c_17, c_28, c_36, c_41]), (by simp [tTr, okTr, c_6, c_17, c_28, c_36, c_41])⟩ hP hD hS
    · have c_17 : (wi q 0 20) = false := bI_0.mp c_17
      refine lv_bipush (v := (-2)) zx zb dX8_tellTreaty_20 (by decide) ?_
      exact fin _ _ (-2) (C, tr) 22 _ dX8_tellTreaty_22 (fun h => by cases h) ⟨(by simp [tTrR, okTr, c_6, c_17]), (by simp [tTr, okTr, c_6, c_17])⟩ hP hD hS

set_option maxHeartbeats 4000000 in
set_option maxRecDepth 100000 in
theorem c_X8_dropTreaties (Γ : GG) (l : Launch) (s : Nat → Nat) (c : Nat → Nat) (k : Nat → Nat) (y : Nat → Nat) (p : Nat → Nat → Nat) (pc : Nat) (C : CoV) (Y : YrV)  : Ci Γ l yX8_dropTreaties cX8_dropTreaties 2 (some (.int)) 0 0 0 0 [.ref (s 0)] [bSt Γ s c y p pc, bCo Γ c k C, bYr Γ y Y] (fun (r : Int32) (u : CoV × YrV) => r = nI (C.2.2.2.2.2.2.1) ∧ u = (coNoTr C, yrNoBr Y)) (fun (u : CoV × YrV) => [bSt Γ s c y p pc, bCo Γ c k u.1, bYr Γ y u.2]) := by
  refine Ci.of (Or.inl rfl) (by decide) (Nat.le_of_ble_eq_true rfl) ?_
  intro pp ee ss mm bb me cd AA QQ XX hnm hA hP hD fin ls hl
  obtain ⟨zx, zb, hml, hown, hts, hK⟩ := id XX
  have hS : va_S AA ss.heap ss.heap [] := va_S.rf
  have hl : lv_has ls 2 [(0, .ref (s 0))] := hl
  refine lv_aload_n zx zb dX8_dropTreaties_0 rfl (lv_at hl 0 rfl) ?_
  refine g_get (v := .ref (c 0)) XX hP 0 0 rfl rfl rfl iwX8 0 (by decide) fl_X8_27 rfl dX8_dropTreaties_1 ?_
  refine g_get (v := .int (nI (C.2.2.2.2.2.2.1))) XX hP 1 0 rfl rfl rfl iwX2 8 (by decide) fl_X8_89 rfl dX8_dropTreaties_4 ?_
  refine lv_istore_n (lv' := [(1, .int (nI (C.2.2.2.2.2.2.1))), (0, .ref (s 0))]) zx zb dX8_dropTreaties_7 rfl hl (by decide) rfl (fun ls hl => ?_)
  refine lv_aload_n zx zb dX8_dropTreaties_8 rfl (lv_at hl 1 rfl) ?_
  refine g_get (v := .ref (c 0)) XX hP 0 0 rfl rfl rfl iwX8 0 (by decide) fl_X8_27 rfl dX8_dropTreaties_9 ?_
  refine lv_iconst (v := nI 0) zx zb dX8_dropTreaties_12 (by decide) ?_
  refine g_put (v := .int (nI 0)) (blk' := bCo Γ c k (C.1, C.2.1, C.2.2.1, C.2.2.2.1, C.2.2.2.2.1, C.2.2.2.2.2.1, 0, C.2.2.2.2.2.2.2.1, C.2.2.2.2.2.2.2.2.1, C.2.2.2.2.2.2.2.2.2.1, C.2.2.2.2.2.2.2.2.2.2)) (bs' := [bSt Γ s c y p pc, bCo Γ c k (C.1, C.2.1, C.2.2.1, C.2.2.2.1, C.2.2.2.2.1, C.2.2.2.2.2.1, 0, C.2.2.2.2.2.2.2.1, C.2.2.2.2.2.2.2.2.1, C.2.2.2.2.2.2.2.2.2.1, C.2.2.2.2.2.2.2.2.2.2), bYr Γ y Y]) XX hP hD hS 1 0 rfl rfl rfl iwX2 tyX2_ok nmX2 8 (by decide) fl_X8_89 rfl rfl rfl (Nat.le_of_ble_eq_true rfl) rfl rfl rfl dX8_dropTreaties_13 (fun H locs hP hD hS => ?_)
  refine lv_aload_n zx zb dX8_dropTreaties_16 rfl (lv_at hl 1 rfl) ?_
  refine g_get (v := .ref (y 0)) XX hP 0 0 rfl rfl rfl iwX8 1 (by decide) fl_X8_12 rfl dX8_dropTreaties_17 ?_
  refine lv_iconst (v := nI 0) zx zb dX8_dropTreaties_20 (by decide) ?_
  refine g_put (v := .int (nI 0)) (blk' := bYr Γ y (Y.1, Y.2.1, nI 0, Y.2.2.2.1, Y.2.2.2.2)) (bs' := [bSt Γ s c y p pc, bCo Γ c k (C.1, C.2.1, C.2.2.1, C.2.2.2.1, C.2.2.2.2.1, C.2.2.2.2.2.1, 0, C.2.2.2.2.2.2.2.1, C.2.2.2.2.2.2.2.2.1, C.2.2.2.2.2.2.2.2.2.1, C.2.2.2.2.2.2.2.2.2.2), bYr Γ y (Y.1, Y.2.1, nI 0, Y.2.2.2.1, Y.2.2.2.2)]) XX hP hD hS 2 0 rfl rfl rfl iwX10 tyX10_ok nmX10 2 (by decide) fl_X8_92 rfl rfl rfl (Nat.le_of_ble_eq_true rfl) rfl rfl rfl dX8_dropTreaties_21 (fun H locs hP hD hS => ?_)
  refine lv_iload_n zx zb dX8_dropTreaties_24 rfl (lv_at hl 0 rfl) ?_
  exact fin _ _ (nI (C.2.2.2.2.2.2.1)) ((C.1, C.2.1, C.2.2.1, C.2.2.2.1, C.2.2.2.2.1, C.2.2.2.2.2.1, 0, C.2.2.2.2.2.2.2.1, C.2.2.2.2.2.2.2.2.1, C.2.2.2.2.2.2.2.2.2.1, C.2.2.2.2.2.2.2.2.2.2), (Y.1, Y.2.1, nI 0, Y.2.2.2.1, Y.2.2.2.2)) 25 _ dX8_dropTreaties_25 (fun h => by cases h) ⟨(rfl), (rfl)⟩ hP hD hS

set_option maxHeartbeats 4000000 in
set_option maxRecDepth 100000 in
theorem c_X8_worthOf (Γ : GG) (l : Launch) (s : Nat → Nat) (c : Nat → Nat) (k : Nat → Nat) (y : Nat → Nat) (p : Nat → Nat → Nat) (pc : Nat) (C : CoV) (Y : YrV) (q : Int32) (hn : C.1 ≤ 8) : Ci Γ l yX8_worthOf cX8_worthOf 2 (some (.int)) 2 43 0 0 [.ref (s 0), .int q] [bSt Γ s c y p pc, bCo Γ c k C, bYr Γ y Y] (fun (r : Int32) (u : Unit) => r = stWorth C Y q) (fun (u : Unit) => [bSt Γ s c y p pc, bCo Γ c k C, bYr Γ y Y]) := by
  refine Ci.of (Or.inl rfl) (by decide) (Nat.le_of_ble_eq_true rfl) ?_
  intro pp ee ss mm bb me cd AA QQ XX hnm hA hP hD fin ls hl
  obtain ⟨zx, zb, hml, hown, hts, hK⟩ := id XX
  have hS : va_S AA ss.heap ss.heap [] := va_S.rf
  have hl : lv_has ls 2 [(0, .ref (s 0)), (1, .int q)] := hl
  refine lv_aload_n zx zb dX8_worthOf_0 rfl (lv_at hl 0 rfl) ?_
  refine g_get (v := .ref (c 0)) XX hP 0 0 rfl rfl rfl iwX8 0 (by decide) fl_X8_27 rfl dX8_worthOf_1 ?_
  refine lv_iload_n zx zb dX8_worthOf_4 rfl (lv_at hl 1 rfl) ?_
  refine lv_aload_n zx zb dX8_worthOf_5 rfl (lv_at hl 0 rfl) ?_
  refine g_get (v := .ref (y 0)) XX hP 0 0 rfl rfl rfl iwX8 1 (by decide) fl_X8_12 rfl dX8_worthOf_6 ?_
  refine call_Vi (As := []) (rest := [.int q, .ref (c 0)]) XX cv_X8_95 (c_X10_lost Γ l y Y ) hP hD hS hA [2] (by decide) rfl (fun _ => rfl) 2 0 rfl rfl rfl rfl hl.1 rfl ⟨⟨by decide, by decide⟩, by decide, by decide⟩ (Nat.le_of_ble_eq_true rfl) dX8_worthOf_9 (fun r_9 u H locs hw hP hD hS => ?_)
  have hw := hw.symm
  subst hw
  have hP : bP Γ [bSt Γ s c y p pc, bCo Γ c k C, bYr Γ y Y] H := hP
  have hD : bD AA [bSt Γ s c y p pc, bCo Γ c k C, bYr Γ y Y] := hD
  refine lv_iconst (v := (-1)) zx zb dX8_worthOf_12 (by decide) ?_
  refine lv_ixor zx zb dX8_worthOf_13 ?_
  refine lv_iand zx zb dX8_worthOf_14 ?_
  refine call_Vi (As := [.int (q &&& ((yrLostB Y 8) ^^^ (-1)))]) (rest := []) XX cv_X8_99 (c_X2_worthOfAll Γ l c k C (q &&& ((yrLostB Y 8) ^^^ (-1))) (hn)) hP hD hS hA [1] (by decide) rfl (fun _ => rfl) 1 0 rfl rfl rfl rfl hl.1 rfl ⟨⟨by decide, by decide⟩, by decide, by decide⟩ (Nat.le_of_ble_eq_true rfl) dX8_worthOf_15 (fun r_15 u H locs hw hP hD hS => ?_)
  have hw := hw.symm
  subst hw
  have hP : bP Γ [bSt Γ s c y p pc, bCo Γ c k C, bYr Γ y Y] H := hP
  have hD : bD AA [bSt Γ s c y p pc, bCo Γ c k C, bYr Γ y Y] := hD
  exact fin _ _ (coWorth C (q &&& ((yrLostB Y 8) ^^^ (-1))) C.1) () 18 _ dX8_worthOf_18 (fun h => by cases h) (rfl) hP hD hS

set_option maxHeartbeats 4000000 in
set_option maxRecDepth 100000 in
theorem c_X8_mixCells (Γ : GG) (l : Launch) (s : Nat → Nat) (c : Nat → Nat) (k : Nat → Nat) (y : Nat → Nat) (p : Nat → Nat → Nat) (pc : Nat) (C : CoV) (Y : YrV) (h : Int64) (hn : C.1 ≤ 8) : Cl Γ l yX8_mixCells cX8_mixCells 4 (some (.long)) 0 0 0 0 [.ref (s 0), .long h] [bSt Γ s c y p pc, bCo Γ c k C, bYr Γ y Y] (fun (r : Int64) (u : Unit) => r = stMixC C Y h C.1) (fun (u : Unit) => [bSt Γ s c y p pc, bCo Γ c k C, bYr Γ y Y]) := by
  refine Cl.of rfl (by decide) (Nat.le_of_ble_eq_true rfl) ?_
  intro pp ee ss mm bb me cd AA QQ XX hnm hA hP hD fin ls hl
  obtain ⟨zx, zb, hml, hown, hts, hK⟩ := id XX
  have hS : va_S AA ss.heap ss.heap [] := va_S.rf
  have hl : lv_has ls 4 [(0, .ref (s 0)), (1, .long h)] := hl
  refine lv_iconst (v := nI 0) zx zb dX8_mixCells_0 (by decide) ?_
  refine lv_istore_n (lv' := [(3, .int (nI 0)), (0, .ref (s 0)), (1, .long h)]) zx zb dX8_mixCells_1 rfl hl (by decide) rfl (fun ls hl => ?_)
  have L2 : ∀ (nn : Nat) (x : Nat) (a : Int64), (x ≤ C.1) → (a = stMixC C Y h x) → C.1 - x < nn → ∀ (H : Heap) (locs : List Loc), bP Γ [bSt Γ s c y p pc, bCo Γ c k C, bYr Γ y Y] H → bD AA [bSt Γ s c y p pc, bCo Γ c k C, bYr Γ y Y] → va_S AA ss.heap H locs → ∀ (ls : Array Slot), lv_has ls 4 [(0, .ref (s 0)), (1, .long a), (3, .int (nI x))] → W pp l ee { frames := 0, cells := 0, slots := 0, locals := 0 } ss mm [.ref (s 0), .long h].toArray bb me cd H locs 0 0 QQ (F0 mm 2 ls []) := by
    intro nn
    induction nn with
    | zero => intro x a hx ha hm; exact absurd hm (Nat.not_lt_zero _)
    | succ nn ih2 =>
      intro x a hx ha hm2 H locs hP hD hS ls hl
      refine lv_iload_n zx zb dX8_mixCells_2 rfl (lv_at hl 2 rfl) ?_
      refine lv_aload_n zx zb dX8_mixCells_3 rfl (lv_at hl 0 rfl) ?_
      refine g_get (v := .ref (c 0)) XX hP 0 0 rfl rfl rfl iwX8 0 (by decide) fl_X8_27 rfl dX8_mixCells_4 ?_
      refine g_get (v := .int (nI (C.1))) XX hP 1 0 rfl rfl rfl iwX2 1 (by decide) fl_X8_51 rfl dX8_mixCells_7 ?_
      refine lv_icmp_ge (tgt := 104) zx zb dX8_mixCells_10 (by decide) (fun c_10 => ?_) (fun c_10 => ?_)
      · have c_10 : C.1 ≤ x := (nI_leI (a := C.1) (b := x) (by omega) (by omega)).mp c_10
        refine lv_lload_n zx zb dX8_mixCells_104 rfl (lv_at hl 1 rfl) ?_
        exact fin _ _ a () 105 _ dX8_mixCells_105 (by have e : x = C.1 := (by omega); subst e; exact ha) hP hD hS
      · have c_10 : ¬ (C.1 ≤ x) := fun h => c_10 ((nI_leI (a := C.1) (b := x) (by omega) (by omega)).mpr h)
        refine lv_ldc2 zx zb hown (hts _ kl_X8_103) dX8_mixCells_13 ?_
        refine lv_lload_n zx zb dX8_mixCells_16 rfl (lv_at hl 1 rfl) ?_
        refine lv_lmul zx zb dX8_mixCells_17 ?_
        refine lv_aload_n zx zb dX8_mixCells_18 rfl (lv_at hl 0 rfl) ?_
        refine g_get (v := .ref (c 0)) XX hP 0 0 rfl rfl rfl iwX8 0 (by decide) fl_X8_27 rfl dX8_mixCells_19 ?_
        refine g_get (v := .ref (c 1)) XX hP 1 0 rfl rfl rfl iwX2 3 (by decide) fl_X8_65 rfl dX8_mixCells_22 ?_
        refine lv_iload_n zx zb dX8_mixCells_25 rfl (lv_at hl 2 rfl) ?_
        refine g_ialdN (i := x) XX hP 1 1 rfl rfl (by omega) (by decide) dX8_mixCells_26 ?_
        refine lv_i2l (v := (C.2.2.1 x).toInt64) zx zb dX8_mixCells_27 rfl ?_
        refine lv_ladd zx zb dX8_mixCells_28 ?_
        refine lv_lstore_n (lv' := [(1, .long (((31 : Int64) * a) + ((C.2.2.1 x).toInt64))), (0, .ref (s 0)), (3, .int (nI x))]) zx zb dX8_mixCells_29 rfl hl (by decide) rfl (fun ls hl => ?_)
        refine lv_ldc2 zx zb hown (hts _ kl_X8_103) dX8_mixCells_30 ?_
        refine lv_lload_n zx zb dX8_mixCells_33 rfl (lv_at hl 0 rfl) ?_
        refine lv_lmul zx zb dX8_mixCells_34 ?_
        refine lv_aload_n zx zb dX8_mixCells_35 rfl (lv_at hl 1 rfl) ?_
        refine g_get (v := .ref (c 0)) XX hP 0 0 rfl rfl rfl iwX8 0 (by decide) fl_X8_27 rfl dX8_mixCells_36 ?_
        refine g_get (v := .ref (c 2)) XX hP 1 0 rfl rfl rfl iwX2 4 (by decide) fl_X8_105 rfl dX8_mixCells_39 ?_
        refine lv_iload_n zx zb dX8_mixCells_42 rfl (lv_at hl 2 rfl) ?_
        refine g_ialdN (i := x) XX hP 1 2 rfl rfl (by omega) (by decide) dX8_mixCells_43 ?_
        refine lv_i2l (v := (C.2.2.2.1 x).toInt64) zx zb dX8_mixCells_44 rfl ?_
        refine lv_ladd zx zb dX8_mixCells_45 ?_
        refine lv_lstore_n (lv' := [(1, .long (((31 : Int64) * (((31 : Int64) * a) + ((C.2.2.1 x).toInt64))) + ((C.2.2.2.1 x).toInt64))), (0, .ref (s 0)), (3, .int (nI x))]) zx zb dX8_mixCells_46 rfl hl (by decide) rfl (fun ls hl => ?_)
        refine lv_ldc2 zx zb hown (hts _ kl_X8_103) dX8_mixCells_47 ?_
        refine lv_lload_n zx zb dX8_mixCells_50 rfl (lv_at hl 0 rfl) ?_
        refine lv_lmul zx zb dX8_mixCells_51 ?_
        refine lv_aload_n zx zb dX8_mixCells_52 rfl (lv_at hl 1 rfl) ?_
        refine g_get (v := .ref (c 0)) XX hP 0 0 rfl rfl rfl iwX8 0 (by decide) fl_X8_27 rfl dX8_mixCells_53 ?_
        refine g_get (v := .ref (c 3)) XX hP 1 0 rfl rfl rfl iwX2 5 (by decide) fl_X8_108 rfl dX8_mixCells_56 ?_
        refine lv_iload_n zx zb dX8_mixCells_59 rfl (lv_at hl 2 rfl) ?_
        refine g_ialdN (i := x) XX hP 1 3 rfl rfl (by omega) (by decide) dX8_mixCells_60 ?_
        refine lv_i2l (v := (C.2.2.2.2.1 x).toInt64) zx zb dX8_mixCells_61 rfl ?_
        refine lv_ladd zx zb dX8_mixCells_62 ?_
        refine lv_lstore_n (lv' := [(1, .long (((31 : Int64) * (((31 : Int64) * (((31 : Int64) * a) + ((C.2.2.1 x).toInt64))) + ((C.2.2.2.1 x).toInt64))) + ((C.2.2.2.2.1 x).toInt64))), (0, .ref (s 0)), (3, .int (nI x))]) zx zb dX8_mixCells_63 rfl hl (by decide) rfl (fun ls hl => ?_)
        refine lv_ldc2 zx zb hown (hts _ kl_X8_103) dX8_mixCells_64 ?_
        refine lv_lload_n zx zb dX8_mixCells_67 rfl (lv_at hl 0 rfl) ?_
        refine lv_lmul zx zb dX8_mixCells_68 ?_
        refine lv_aload_n zx zb dX8_mixCells_69 rfl (lv_at hl 1 rfl) ?_
        refine g_get (v := .ref (y 0)) XX hP 0 0 rfl rfl rfl iwX8 1 (by decide) fl_X8_12 rfl dX8_mixCells_70 ?_
        refine g_get (v := .ref (y 1)) XX hP 2 0 rfl rfl rfl iwX10 3 (by decide) fl_X8_76 rfl dX8_mixCells_73 ?_
        refine lv_iload_n zx zb dX8_mixCells_76 rfl (lv_at hl 2 rfl) ?_
        refine g_ialdN (i := x) XX hP 2 1 rfl rfl (by omega) (by decide) dX8_mixCells_77 ?_
        refine lv_i2l (v := (Y.2.2.2.1 x).toInt64) zx zb dX8_mixCells_78 rfl ?_
        refine lv_ladd zx zb dX8_mixCells_79 ?_
        refine lv_lstore_n (lv' := [(1, .long (((31 : Int64) * (((31 : Int64) * (((31 : Int64) * (((31 : Int64) * a) + ((C.2.2.1 x).toInt64))) + ((C.2.2.2.1 x).toInt64))) + ((C.2.2.2.2.1 x).toInt64))) + ((Y.2.2.2.1 x).toInt64))), (0, .ref (s 0)), (3, .int (nI x))]) zx zb dX8_mixCells_80 rfl hl (by decide) rfl (fun ls hl => ?_)
        refine lv_ldc2 zx zb hown (hts _ kl_X8_103) dX8_mixCells_81 ?_
        refine lv_lload_n zx zb dX8_mixCells_84 rfl (lv_at hl 0 rfl) ?_
        refine lv_lmul zx zb dX8_mixCells_85 ?_
        refine lv_aload_n zx zb dX8_mixCells_86 rfl (lv_at hl 1 rfl) ?_
        refine g_get (v := .ref (y 0)) XX hP 0 0 rfl rfl rfl iwX8 1 (by decide) fl_X8_12 rfl dX8_mixCells_87 ?_
        refine g_get (v := .ref (y 2)) XX hP 2 0 rfl rfl rfl iwX10 4 (by decide) fl_X8_73 rfl dX8_mixCells_90 ?_
        refine lv_iload_n zx zb dX8_mixCells_93 rfl (lv_at hl 2 rfl) ?_
        refine g_ialdN (i := x) XX hP 2 2 rfl rfl (by omega) (by decide) dX8_mixCells_94 ?_
        refine lv_i2l (v := (Y.2.2.2.2 x).toInt64) zx zb dX8_mixCells_95 rfl ?_
        refine lv_ladd zx zb dX8_mixCells_96 ?_
        refine lv_lstore_n (lv' := [(1, .long (((31 : Int64) * (((31 : Int64) * (((31 : Int64) * (((31 : Int64) * (((31 : Int64) * a) + ((C.2.2.1 x).toInt64))) + ((C.2.2.2.1 x).toInt64))) + ((C.2.2.2.2.1 x).toInt64))) + ((Y.2.2.2.1 x).toInt64))) + ((Y.2.2.2.2 x).toInt64))), (0, .ref (s 0)), (3, .int (nI x))]) zx zb dX8_mixCells_97 rfl hl (by decide) rfl (fun ls hl => ?_)
        refine lv_iinc (v := nI (x + 1)) (lv' := [(3, .int (nI (x + 1))), (1, .long (((31 : Int64) * (((31 : Int64) * (((31 : Int64) * (((31 : Int64) * (((31 : Int64) * a) + ((C.2.2.1 x).toInt64))) + ((C.2.2.2.1 x).toInt64))) + ((C.2.2.2.2.1 x).toInt64))) + ((Y.2.2.2.1 x).toInt64))) + ((Y.2.2.2.2 x).toInt64))), (0, .ref (s 0))]) zx zb dX8_mixCells_98 hl (k := 2) rfl (nI_inc _ 1) (by decide) rfl (fun ls hl => ?_)
        refine lv_goto (tgt := 2) zx zb dX8_mixCells_101 (by decide) ?_
        exact ih2 (x + 1) (((31 : Int64) * (((31 : Int64) * (((31 : Int64) * (((31 : Int64) * (((31 : Int64) * a) + ((C.2.2.1 x).toInt64))) + ((C.2.2.2.1 x).toInt64))) + ((C.2.2.2.2.1 x).toInt64))) + ((Y.2.2.2.1 x).toInt64))) + ((Y.2.2.2.2 x).toInt64)) (by omega) (by rw [stMixC, ← ha]) (by omega) _ _ hP hD hS _ (lv_sub hl [2, 1, 0] rfl)
  exact L2 _ 0 h (by omega) (rfl) (Nat.lt_succ_self _) _ _ hP hD hS _ (lv_sub hl [1, 2, 0] rfl)

set_option maxHeartbeats 4000000 in
set_option maxRecDepth 100000 in
theorem c_X8_mixTreaties (Γ : GG) (l : Launch) (s : Nat → Nat) (c : Nat → Nat) (k : Nat → Nat) (y : Nat → Nat) (p : Nat → Nat → Nat) (pc : Nat) (C : CoV) (tr : Nat → TrV) (Y : YrV) (h : Int64) (htc : C.2.2.2.2.2.2.1 ≤ 6) : Cl Γ l yX8_mixTreaties cX8_mixTreaties 5 (some (.long)) 1 21 0 0 [.ref (s 0), .long h] [bSt Γ s c y p pc, bCo Γ c k C, bTs Γ c k tr, bYr Γ y Y] (fun (r : Int64) (u : Unit) => r = stMixT tr Y h C.2.2.2.2.2.2.1) (fun (u : Unit) => [bSt Γ s c y p pc, bCo Γ c k C, bTs Γ c k tr, bYr Γ y Y]) := by
  refine Cl.of rfl (by decide) (Nat.le_of_ble_eq_true rfl) ?_
  intro pp ee ss mm bb me cd AA QQ XX hnm hA hP hD fin ls hl
  obtain ⟨zx, zb, hml, hown, hts, hK⟩ := id XX
  have hS : va_S AA ss.heap ss.heap [] := va_S.rf
  have hl : lv_has ls 5 [(0, .ref (s 0)), (1, .long h)] := hl
  refine lv_iconst (v := nI 0) zx zb dX8_mixTreaties_0 (by decide) ?_
  refine lv_istore_n (lv' := [(3, .int (nI 0)), (0, .ref (s 0)), (1, .long h)]) zx zb dX8_mixTreaties_1 rfl hl (by decide) rfl (fun ls hl => ?_)
  have L2 : ∀ (nn : Nat) (i : Nat) (a : Int64), (i ≤ C.2.2.2.2.2.2.1) → (a = stMixT tr Y h i) → C.2.2.2.2.2.2.1 - i < nn → ∀ (H : Heap) (locs : List Loc), bP Γ [bSt Γ s c y p pc, bCo Γ c k C, bTs Γ c k tr, bYr Γ y Y] H → bD AA [bSt Γ s c y p pc, bCo Γ c k C, bTs Γ c k tr, bYr Γ y Y] → va_S AA ss.heap H locs → ∀ (ls : Array Slot), lv_has ls 5 [(0, .ref (s 0)), (1, .long a), (3, .int (nI i))] → W pp l ee { frames := 1, cells := 0, slots := 0, locals := 21 } ss mm [.ref (s 0), .long h].toArray bb me cd H locs 0 0 QQ (F0 mm 2 ls []) := by
    intro nn
    induction nn with
    | zero => intro i a hi ha hm; exact absurd hm (Nat.not_lt_zero _)
    | succ nn ih2 =>
      intro i a hi ha hm2 H locs hP hD hS ls hl
      refine lv_iload_n zx zb dX8_mixTreaties_2 rfl (lv_at hl 2 rfl) ?_
      refine lv_aload_n zx zb dX8_mixTreaties_3 rfl (lv_at hl 0 rfl) ?_
      refine g_get (v := .ref (c 0)) XX hP 0 0 rfl rfl rfl iwX8 0 (by decide) fl_X8_27 rfl dX8_mixTreaties_4 ?_
      refine g_get (v := .int (nI (C.2.2.2.2.2.2.1))) XX hP 1 0 rfl rfl rfl iwX2 8 (by decide) fl_X8_89 rfl dX8_mixTreaties_7 ?_
      refine lv_icmp_ge (tgt := 132) zx zb dX8_mixTreaties_10 (by decide) (fun c_10 => ?_) (fun c_10 => ?_)
      · have c_10 : C.2.2.2.2.2.2.1 ≤ i := (nI_leI (a := C.2.2.2.2.2.2.1) (b := i) (by omega) (by omega)).mp c_10
        refine lv_lload_n zx zb dX8_mixTreaties_132 rfl (lv_at hl 1 rfl) ?_
        exact fin _ _ a () 133 _ dX8_mixTreaties_133 (by have e : i = C.2.2.2.2.2.2.1 := (by omega); subst e; exact ha) hP hD hS
      · have c_10 : ¬ (C.2.2.2.2.2.2.1 ≤ i) := fun h => c_10 ((nI_leI (a := C.2.2.2.2.2.2.1) (b := i) (by omega) (by omega)).mpr h)
        refine lv_aload_n zx zb dX8_mixTreaties_13 rfl (lv_at hl 0 rfl) ?_
        refine g_get (v := .ref (c 0)) XX hP 0 0 rfl rfl rfl iwX8 0 (by decide) fl_X8_27 rfl dX8_mixTreaties_14 ?_
        refine g_get (v := .ref (c 5)) XX hP 1 0 rfl rfl rfl iwX2 7 (by decide) fl_X8_111 rfl dX8_mixTreaties_17 ?_
        refine lv_iload_n zx zb dX8_mixTreaties_20 rfl (lv_at hl 2 rfl) ?_
        refine g_aald (i := i) (v := c (6 + i)) XX hP 1 5 4 rfl rfl rfl (by omega) (by decide) rfl dX8_mixTreaties_21 ?_
        refine lv_astore (lv' := [(4, .ref (c (6 + i))), (0, .ref (s 0)), (1, .long a), (3, .int (nI i))]) zx zb dX8_mixTreaties_22 hl (by decide) rfl (fun ls hl => ?_)
        refine lv_ldc2 zx zb hown (hts _ kl_X8_103) dX8_mixTreaties_24 ?_
        refine lv_lload_n zx zb dX8_mixTreaties_27 rfl (lv_at hl 2 rfl) ?_
        refine lv_lmul zx zb dX8_mixTreaties_28 ?_
        refine lv_aload zx zb dX8_mixTreaties_29 (lv_at hl 0 rfl) ?_
        refine g_get (v := .int ((tr i).2.1)) XX hP 2 i rfl (bTs_at Γ c k tr (by omega)) rfl iwX9 1 (by decide) fl_X8_115 rfl dX8_mixTreaties_31 ?_
        refine lv_i2l (v := ((tr i).2.1).toInt64) zx zb dX8_mixTreaties_34 rfl ?_
        refine lv_ladd zx zb dX8_mixTreaties_35 ?_
        refine lv_lstore_n (lv' := [(1, .long (((31 : Int64) * a) + (((tr i).2.1).toInt64))), (4, .ref (c (6 + i))), (0, .ref (s 0)), (3, .int (nI i))]) zx zb dX8_mixTreaties_36 rfl hl (by decide) rfl (fun ls hl => ?_)
        refine lv_ldc2 zx zb hown (hts _ kl_X8_103) dX8_mixTreaties_37 ?_
        refine lv_lload_n zx zb dX8_mixTreaties_40 rfl (lv_at hl 0 rfl) ?_
        refine lv_lmul zx zb dX8_mixTreaties_41 ?_
        refine lv_aload zx zb dX8_mixTreaties_42 (lv_at hl 1 rfl) ?_
        refine g_get (v := .int ((tr i).2.2.1)) XX hP 2 i rfl (bTs_at Γ c k tr (by omega)) rfl iwX9 2 (by decide) fl_X8_120 rfl dX8_mixTreaties_44 ?_
        refine lv_i2l (v := ((tr i).2.2.1).toInt64) zx zb dX8_mixTreaties_47 rfl ?_
        refine lv_ladd zx zb dX8_mixTreaties_48 ?_
        refine lv_lstore_n (lv' := [(1, .long (((31 : Int64) * (((31 : Int64) * a) + (((tr i).2.1).toInt64))) + (((tr i).2.2.1).toInt64))), (4, .ref (c (6 + i))), (0, .ref (s 0)), (3, .int (nI i))]) zx zb dX8_mixTreaties_49 rfl hl (by decide) rfl (fun ls hl => ?_)
        refine lv_ldc2 zx zb hown (hts _ kl_X8_103) dX8_mixTreaties_50 ?_
        refine lv_lload_n zx zb dX8_mixTreaties_53 rfl (lv_at hl 0 rfl) ?_
        refine lv_lmul zx zb dX8_mixTreaties_54 ?_
        refine lv_aload zx zb dX8_mixTreaties_55 (lv_at hl 1 rfl) ?_
        refine g_get (v := .int ((tr i).2.2.2.1)) XX hP 2 i rfl (bTs_at Γ c k tr (by omega)) rfl iwX9 3 (by decide) fl_X8_123 rfl dX8_mixTreaties_57 ?_
        refine lv_i2l (v := ((tr i).2.2.2.1).toInt64) zx zb dX8_mixTreaties_60 rfl ?_
        refine lv_ladd zx zb dX8_mixTreaties_61 ?_
        refine lv_lstore_n (lv' := [(1, .long (((31 : Int64) * (((31 : Int64) * (((31 : Int64) * a) + (((tr i).2.1).toInt64))) + (((tr i).2.2.1).toInt64))) + (((tr i).2.2.2.1).toInt64))), (4, .ref (c (6 + i))), (0, .ref (s 0)), (3, .int (nI i))]) zx zb dX8_mixTreaties_62 rfl hl (by decide) rfl (fun ls hl => ?_)
        refine lv_ldc2 zx zb hown (hts _ kl_X8_103) dX8_mixTreaties_63 ?_
        refine lv_lload_n zx zb dX8_mixTreaties_66 rfl (lv_at hl 0 rfl) ?_
        refine lv_lmul zx zb dX8_mixTreaties_67 ?_
        refine lv_aload zx zb dX8_mixTreaties_68 (lv_at hl 1 rfl) ?_
        refine g_get (v := .int ((tr i).2.2.2.2.1)) XX hP 2 i rfl (bTs_at Γ c k tr (by omega)) rfl iwX9 4 (by decide) fl_X8_126 rfl dX8_mixTreaties_70 ?_
        refine lv_i2l (v := ((tr i).2.2.2.2.1).toInt64) zx zb dX8_mixTreaties_73 rfl ?_
        refine lv_ladd zx zb dX8_mixTreaties_74 ?_
        refine lv_lstore_n (lv' := [(1, .long (((31 : Int64) * (((31 : Int64) * (((31 : Int64) * (((31 : Int64) * a) + (((tr i).2.1).toInt64))) + (((tr i).2.2.1).toInt64))) + (((tr i).2.2.2.1).toInt64))) + (((tr i).2.2.2.2.1).toInt64))), (4, .ref (c (6 + i))), (0, .ref (s 0)), (3, .int (nI i))]) zx zb dX8_mixTreaties_75 rfl hl (by decide) rfl (fun ls hl => ?_)
        refine lv_ldc2 zx zb hown (hts _ kl_X8_103) dX8_mixTreaties_76 ?_
        refine lv_lload_n zx zb dX8_mixTreaties_79 rfl (lv_at hl 0 rfl) ?_
        refine lv_lmul zx zb dX8_mixTreaties_80 ?_
        refine lv_aload zx zb dX8_mixTreaties_81 (lv_at hl 1 rfl) ?_
        refine g_get (v := .int ((tr i).2.2.2.2.2.1)) XX hP 2 i rfl (bTs_at Γ c k tr (by omega)) rfl iwX9 5 (by decide) fl_X8_129 rfl dX8_mixTreaties_83 ?_
        refine lv_i2l (v := ((tr i).2.2.2.2.2.1).toInt64) zx zb dX8_mixTreaties_86 rfl ?_
        refine lv_ladd zx zb dX8_mixTreaties_87 ?_
        refine lv_lstore_n (lv' := [(1, .long (((31 : Int64) * (((31 : Int64) * (((31 : Int64) * (((31 : Int64) * (((31 : Int64) * a) + (((tr i).2.1).toInt64))) + (((tr i).2.2.1).toInt64))) + (((tr i).2.2.2.1).toInt64))) + (((tr i).2.2.2.2.1).toInt64))) + (((tr i).2.2.2.2.2.1).toInt64))), (4, .ref (c (6 + i))), (0, .ref (s 0)), (3, .int (nI i))]) zx zb dX8_mixTreaties_88 rfl hl (by decide) rfl (fun ls hl => ?_)
        refine lv_ldc2 zx zb hown (hts _ kl_X8_103) dX8_mixTreaties_89 ?_
        refine lv_lload_n zx zb dX8_mixTreaties_92 rfl (lv_at hl 0 rfl) ?_
        refine lv_lmul zx zb dX8_mixTreaties_93 ?_
        refine lv_aload zx zb dX8_mixTreaties_94 (lv_at hl 1 rfl) ?_
        refine g_get (v := .int ((tr i).2.2.2.2.2.2.1)) XX hP 2 i rfl (bTs_at Γ c k tr (by omega)) rfl iwX9 6 (by decide) fl_X8_132 rfl dX8_mixTreaties_96 ?_
        refine lv_i2l (v := ((tr i).2.2.2.2.2.2.1).toInt64) zx zb dX8_mixTreaties_99 rfl ?_
        refine lv_ladd zx zb dX8_mixTreaties_100 ?_
        refine lv_lstore_n (lv' := [(1, .long (((31 : Int64) * (((31 : Int64) * (((31 : Int64) * (((31 : Int64) * (((31 : Int64) * (((31 : Int64) * a) + (((tr i).2.1).toInt64))) + (((tr i).2.2.1).toInt64))) + (((tr i).2.2.2.1).toInt64))) + (((tr i).2.2.2.2.1).toInt64))) + (((tr i).2.2.2.2.2.1).toInt64))) + (((tr i).2.2.2.2.2.2.1).toInt64))), (4, .ref (c (6 + i))), (0, .ref (s 0)), (3, .int (nI i))]) zx zb dX8_mixTreaties_101 rfl hl (by decide) rfl (fun ls hl => ?_)
        refine lv_ldc2 zx zb hown (hts _ kl_X8_103) dX8_mixTreaties_102 ?_
        refine lv_lload_n zx zb dX8_mixTreaties_105 rfl (lv_at hl 0 rfl) ?_
        refine lv_lmul zx zb dX8_mixTreaties_106 ?_
        refine lv_aload_n zx zb dX8_mixTreaties_107 rfl (lv_at hl 2 rfl) ?_
        refine g_get (v := .ref (y 0)) XX hP 0 0 rfl rfl rfl iwX8 1 (by decide) fl_X8_12 rfl dX8_mixTreaties_108 ?_
        refine lv_iload_n zx zb dX8_mixTreaties_111 rfl (lv_at hl 3 rfl) ?_
        refine call_Vi (As := [.int (nI i)]) (rest := [.long ((31 : Int64) * (((31 : Int64) * (((31 : Int64) * (((31 : Int64) * (((31 : Int64) * (((31 : Int64) * (((31 : Int64) * a) + (((tr i).2.1).toInt64))) + (((tr i).2.2.1).toInt64))) + (((tr i).2.2.2.1).toInt64))) + (((tr i).2.2.2.2.1).toInt64))) + (((tr i).2.2.2.2.2.1).toInt64))) + (((tr i).2.2.2.2.2.2.1).toInt64)))]) XX cv_X8_135 (c_X10_isBreached Γ l y Y i (by omega)) hP hD hS hA [3] (by decide) rfl (fun _ => rfl) 3 0 rfl rfl rfl rfl hl.1 rfl ⟨⟨by decide, by decide⟩, by decide, by decide⟩ (Nat.le_of_ble_eq_true rfl) dX8_mixTreaties_112 (fun r_112 u H locs hw hP hD hS => ?_)
        have hw := hw.symm
        subst hw
        have hP : bP Γ [bSt Γ s c y p pc, bCo Γ c k C, bTs Γ c k tr, bYr Γ y Y] H := hP
        have hD : bD AA [bSt Γ s c y p pc, bCo Γ c k C, bTs Γ c k tr, bYr Γ y Y] := hD
        refine lv_if_eq (tgt := 122) zx zb dX8_mixTreaties_115 (by decide) (fun c_115 => ?_) (fun c_115 => ?_)
        · have c_115 : (yrBr Y i) = false := bI_0.mp c_115
          refine lv_iconst (v := nI 0) zx zb dX8_mixTreaties_122 (by decide) ?_
          refine lv_i2l (v := (nI 0).toInt64) zx zb dX8_mixTreaties_123 rfl ?_
          refine lv_ladd zx zb dX8_mixTreaties_124 ?_
          refine lv_lstore_n (lv' := [(1, .long (((31 : Int64) * (((31 : Int64) * (((31 : Int64) * (((31 : Int64) * (((31 : Int64) * (((31 : Int64) * (((31 : Int64) * a) + (((tr i).2.1).toInt64))) + (((tr i).2.2.1).toInt64))) + (((tr i).2.2.2.1).toInt64))) + (((tr i).2.2.2.2.1).toInt64))) + (((tr i).2.2.2.2.2.1).toInt64))) + (((tr i).2.2.2.2.2.2.1).toInt64))) + ((nI 0).toInt64))), (4, .ref (c (6 + i))), (0, .ref (s 0)), (3, .int (nI i))]) zx zb dX8_mixTreaties_125 rfl hl (by decide) rfl (fun ls hl => ?_)
          refine lv_iinc (v := nI (i + 1)) (lv' := [(3, .int (nI (i + 1))), (1, .long (((31 : Int64) * (((31 : Int64) * (((31 : Int64) * (((31 : Int64) * (((31 : Int64) * (((31 : Int64) * (((31 : Int64) * a) + (((tr i).2.1).toInt64))) + (((tr i).2.2.1).toInt64))) + (((tr i).2.2.2.1).toInt64))) + (((tr i).2.2.2.2.1).toInt64))) + (((tr i).2.2.2.2.2.1).toInt64))) + (((tr i).2.2.2.2.2.2.1).toInt64))) + ((nI 0).toInt64))), (4, .ref (c (6 + i))), (0, .ref (s 0))]) zx zb dX8_mixTreaties_126 hl (k := 3) rfl (nI_inc _ 1) (by decide) rfl (fun ls hl => ?_)
          refine lv_goto (tgt := 2) zx zb dX8_mixTreaties_129 (by decide) ?_
          exact ih2 (i + 1) (((31 : Int64) * (((31 : Int64) * (((31 : Int64) * (((31 : Int64) * (((31 : Int64) * (((31 : Int64) * (((31 : Int64) * a) + (((tr i).2.1).toInt64))) + (((tr i).2.2.1).toInt64))) + (((tr i).2.2.2.1).toInt64))) + (((tr i).2.2.2.2.1).toInt64))) + (((tr i).2.2.2.2.2.1).toInt64))) + (((tr i).2.2.2.2.2.2.1).toInt64))) + ((nI 0).toInt64)) (by omega) (by rw [stMixT, ← ha, c_115]; rfl) (by omega) _ _ hP hD hS _ (lv_sub hl [3, 1, 0] rfl)
        · have c_115 : (yrBr Y i) = true := bI_ne c_115
          refine lv_iconst (v := nI 1) zx zb dX8_mixTreaties_118 (by decide) ?_
          refine lv_goto (tgt := 123) zx zb dX8_mixTreaties_119 (by decide) ?_
          refine lv_i2l (v := (nI 1).toInt64) zx zb dX8_mixTreaties_123 rfl ?_
          refine lv_ladd zx zb dX8_mixTreaties_124 ?_
          refine lv_lstore_n (lv' := [(1, .long (((31 : Int64) * (((31 : Int64) * (((31 : Int64) * (((31 : Int64) * (((31 : Int64) * (((31 : Int64) * (((31 : Int64) * a) + (((tr i).2.1).toInt64))) + (((tr i).2.2.1).toInt64))) + (((tr i).2.2.2.1).toInt64))) + (((tr i).2.2.2.2.1).toInt64))) + (((tr i).2.2.2.2.2.1).toInt64))) + (((tr i).2.2.2.2.2.2.1).toInt64))) + ((nI 1).toInt64))), (4, .ref (c (6 + i))), (0, .ref (s 0)), (3, .int (nI i))]) zx zb dX8_mixTreaties_125 rfl hl (by decide) rfl (fun ls hl => ?_)
          refine lv_iinc (v := nI (i + 1)) (lv' := [(3, .int (nI (i + 1))), (1, .long (((31 : Int64) * (((31 : Int64) * (((31 : Int64) * (((31 : Int64) * (((31 : Int64) * (((31 : Int64) * (((31 : Int64) * a) + (((tr i).2.1).toInt64))) + (((tr i).2.2.1).toInt64))) + (((tr i).2.2.2.1).toInt64))) + (((tr i).2.2.2.2.1).toInt64))) + (((tr i).2.2.2.2.2.1).toInt64))) + (((tr i).2.2.2.2.2.2.1).toInt64))) + ((nI 1).toInt64))), (4, .ref (c (6 + i))), (0, .ref (s 0))]) zx zb dX8_mixTreaties_126 hl (k := 3) rfl (nI_inc _ 1) (by decide) rfl (fun ls hl => ?_)
          refine lv_goto (tgt := 2) zx zb dX8_mixTreaties_129 (by decide) ?_
          exact ih2 (i + 1) (((31 : Int64) * (((31 : Int64) * (((31 : Int64) * (((31 : Int64) * (((31 : Int64) * (((31 : Int64) * (((31 : Int64) * a) + (((tr i).2.1).toInt64))) + (((tr i).2.2.1).toInt64))) + (((tr i).2.2.2.1).toInt64))) + (((tr i).2.2.2.2.1).toInt64))) + (((tr i).2.2.2.2.2.1).toInt64))) + (((tr i).2.2.2.2.2.2.1).toInt64))) + ((nI 1).toInt64)) (by omega) (by rw [stMixT, ← ha, c_115]; rfl) (by omega) _ _ hP hD hS _ (lv_sub hl [3, 1, 0] rfl)
  exact L2 _ 0 h (by omega) (rfl) (Nat.lt_succ_self _) _ _ hP hD hS _ (lv_sub hl [1, 2, 0] rfl)
