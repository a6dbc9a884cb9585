theorem cv_X12_229 : CWV RX12 229 RX12 yX12_worthOf cX12_worthOf 4 (some (.int)) 1 := ⟨cd_X12_worthOf, im_X12_worthOf, se_X12_X12_worthOf_X12_worthOf, in_X12, ml_X12_229, by decide +kernel⟩
theorem cv_X12_264 : CWV RX12 264 RX12 yX12_cellsOf cX12_cellsOf 4 (some (.int)) 1 := ⟨cd_X12_cellsOf, im_X12_cellsOf, se_X12_X12_cellsOf_X12_cellsOf, in_X12, ml_X12_264, by decide +kernel⟩
theorem cv_X12_63 : CWV RX12 63 RX12 yX12_isCell cX12_isCell 2 (some (.boolean)) 1 := ⟨cd_X12_isCell, im_X12_isCell, se_X12_X12_isCell_X12_isCell, in_X12, ml_X12_63, by decide +kernel⟩
theorem cv_X12_99 : CWV RX12 99 RX12 yX12_isTreaty cX12_isTreaty 2 (some (.boolean)) 1 := ⟨cd_X12_isTreaty, im_X12_isTreaty, se_X12_X12_isTreaty_X12_isTreaty, in_X12, ml_X12_99, by decide +kernel⟩
set_option maxHeartbeats 4000000 in
set_option maxRecDepth 100000 in
theorem c_X12_of (Γ : GG) (l : Launch) (m : Nat → Nat) (M : MoV) (b : Nat → Int32) (C : CoV) (tr : Nat → TrV) (Y : YrV) (pc : Nat) (P : Nat → YrV) (f : Nat → Int32) (a : Int32) (w : Int32) (hr : Rel b C tr Y pc P) (hI : Inv C tr Y) : Ci Γ l yX12_of cX12_of 3 (some (.int)) 2 46 0 0 [.ref (m 0), .int a, .int w] [bMo Γ m M, bA Γ (m 1) 259 b, bA Γ (m 6) 3 f] (fun (r : Int32) (u : Nat → Int32) => r = ofR C Y a w ∧ u = moV M f (ofOk C a w)) (fun (u : Nat → Int32) => [bMo Γ m M, bA Γ (m 1) 259 b, bA Γ (m 6) 3 u]) := by
  refine Ci.of (Or.inl rfl) (by decide) (Nat.le_of_ble_eq_true rfl) ?_
  intro pp ee ss mm bb me cd AA QQ XX hnm hA hP hD fin ls hl
  obtain ⟨zx, zb, hml, hown, hts, hK⟩ := id XX
  have hS : va_S AA ss.heap ss.heap [] := va_S.rf
  have hl : lv_has ls 3 [(0, .ref (m 0)), (1, .int a), (2, .int w)] := hl
  have htc := inv_tc hI
  have hdc := inv_dc hI
  have hn := inv_n hI
  refine lv_aload_n zx zb dX12_of_0 rfl (lv_at hl 0 rfl) ?_
  refine lv_iload_n zx zb dX12_of_1 rfl (lv_at hl 1 rfl) ?_
  refine call_Vi (As := [.int a]) (rest := []) XX cv_X12_63 (c_X12_isCell Γ l m M b C tr Y pc P a (hr)) hP hD hS hA [0, 1] (by decide) rfl (fun _ => rfl) 0 0 rfl rfl rfl rfl hl.1 rfl ⟨⟨by decide, by decide⟩, by decide, by decide⟩ (Nat.le_of_ble_eq_true rfl) dX12_of_2 (fun r_2 u H locs hw hP hD hS => ?_)
  have hw := hw.symm
  subst hw
  have hP : bP Γ [bMo Γ m M, bA Γ (m 1) 259 b, bA Γ (m 6) 3 f] H := hP
  have hD : bD AA [bMo Γ m M, bA Γ (m 1) 259 b, bA Γ (m 6) 3 f] := hD
  refine lv_if_eq (tgt := 20) zx zb dX12_of_5 (by decide) (fun c_5 => ?_) (fun c_5 => ?_)
  · have c_5 : (stCell C a) = false := bI_0.mp c_5
    refine lv_aload_n zx zb dX12_of_20 rfl (lv_at hl 0 rfl) ?_
    refine call_Vi (As := []) (rest := []) XX cv_X12_59 (c_X12_bad Γ l m M f ) hP hD hS hA [0, 2] (by decide) rfl (fun _ => rfl) 0 0 rfl rfl rfl rfl hl.1 rfl ⟨⟨by decide, by decide⟩, by decide, by decide⟩ (Nat.le_of_ble_eq_true rfl) dX12_of_21 (fun r_21 u H locs hw hP hD hS => ?_)
    obtain ⟨hw1, hw2⟩ := hw
    have hw1 := hw1.symm
    have hw2 := hw2.symm
    subst hw1
    subst hw2
    have hP : bP Γ [bMo Γ m M, bA Γ (m 1) 259 b, bA Γ (m 6) 3 (moRef M f 0)] H := hP
    have hD : bD AA [bMo Γ m M, bA Γ (m 1) 259 b, bA Γ (m 6) 3 (moRef M f 0)] := hD
    exact fin _ _ (-2) (moRef M f 0) 24 _ dX12_of_24 (fun h => by cases h) ⟨(by simp [ofR, ofOk, c_5]), (by simp [moV, ofOk, c_5])⟩ hP hD hS
  · have c_5 : (stCell C a) = true := bI_ne c_5
    refine lv_iload_n zx zb dX12_of_8 rfl (lv_at hl 2 rfl) ?_
    refine lv_i2l (v := w.toInt64) zx zb dX12_of_9 rfl ?_
    refine lv_lconst (v := (0 : Int32).toInt64) zx zb dX12_of_10 (by decide) ?_
    refine lv_ldc2 zx zb hown (hts _ kl_X12_85) dX12_of_11 ?_
    refine g_topl (y := (5 : Int32).toInt64) (by decide) ?_
    refine callR_Si (As := [.long w.toInt64, .long ((0 : Int32).toInt64), .long ((5 : Int32).toInt64)]) (rest := []) XX cs_X12_53 (c_X12_in Γ l w 0 5 ) hP hD hS hA nil_mem nil_D rfl hl.1 rfl ⟨⟨by decide, by decide⟩, by decide, by decide⟩ (Nat.le_of_ble_eq_true rfl) dX12_of_14 (fun r_14 H locs hw hP hS => ?_)
    have hw := hw.symm
    subst hw
    refine lv_if_ne (tgt := 25) zx zb dX12_of_17 (by decide) (fun c_17 => ?_) (fun c_17 => ?_)
    · have c_17 : (wi w 0 5) = true := bI_ne c_17
      obtain ⟨j, hj, rfl⟩ := cell_nat c_5 hn
      obtain ⟨k1, hk1, rfl⟩ := wi_nat 0 5 c_17 rfl rfl (by decide)
      rcases (show k1 = 0 ∨ k1 = 1 ∨ k1 = 2 ∨ k1 = 3 ∨ k1 = 4 ∨ k1 = 5 by omega) with hsp | hsp | hsp | hsp | hsp | hsp
      · subst hsp
        refine lv_iload_n zx zb dX12_of_25 rfl (lv_at hl 2 rfl) ?_
        refine lv_iconst (v := nI 5) zx zb dX12_of_26 (by decide) ?_
        refine lv_icmp_ge (tgt := 43) zx zb dX12_of_27 (by decide) (fun c_27 => ?_) (fun c_27 => ?_)
        · exact absurd c_27 (by decide)
        · clear c_27
          refine lv_aload_n zx zb dX12_of_30 rfl (lv_at hl 0 rfl) ?_
          refine g_get (v := .ref (m 1)) XX hP 0 0 rfl rfl rfl iwX12 0 (by decide) fl_X12_7 rfl dX12_of_31 ?_
          refine lv_iload_n zx zb dX12_of_34 rfl (lv_at hl 1 rfl) ?_
          refine lv_iload_n zx zb dX12_of_35 rfl (lv_at hl 2 rfl) ?_
          refine callR_Si (As := [.int (nI j), .int (nI 0)]) (rest := [.ref (m 1)]) XX cs_X12_73 (c_X12_at Γ l j 0 ) hP hD hS hA nil_mem nil_D rfl hl.1 rfl ⟨⟨by decide, by decide⟩, by decide, by decide⟩ (Nat.le_of_ble_eq_true rfl) dX12_of_36 (fun r_36 H locs hw hP hS => ?_)
          have hw := hw.symm
          subst hw
          refine g_ialdN (i := 15 + 5 * j + 0) XX hP 1 0 rfl rfl (by omega) (by decide) dX12_of_39 ?_
          refine g_top (y := C.2.2.1 j) (Rel.c0 hr (by omega)) ?_
          refine lv_goto (tgt := 56) zx zb dX12_of_40 (by decide) ?_
          exact fin _ _ (C.2.2.1 j) f 56 _ dX12_of_56 (fun h => by cases h) ⟨(of_ok c_5 c_17 (by omega) (of_v.1)), (by unfold moV ofOk; rw [c_5, c_17]; rfl)⟩ hP hD hS
      · subst hsp
        refine lv_iload_n zx zb dX12_of_25 rfl (lv_at hl 2 rfl) ?_
        refine lv_iconst (v := nI 5) zx zb dX12_of_26 (by decide) ?_
        refine lv_icmp_ge (tgt := 43) zx zb dX12_of_27 (by decide) (fun c_27 => ?_) (fun c_27 => ?_)
        · exact absurd c_27 (by decide)
        · clear c_27
          refine lv_aload_n zx zb dX12_of_30 rfl (lv_at hl 0 rfl) ?_
          refine g_get (v := .ref (m 1)) XX hP 0 0 rfl rfl rfl iwX12 0 (by decide) fl_X12_7 rfl dX12_of_31 ?_
          refine lv_iload_n zx zb dX12_of_34 rfl (lv_at hl 1 rfl) ?_
          refine lv_iload_n zx zb dX12_of_35 rfl (lv_at hl 2 rfl) ?_
          refine callR_Si (As := [.int (nI j), .int (nI 1)]) (rest := [.ref (m 1)]) XX cs_X12_73 (c_X12_at Γ l j 1 ) hP hD hS hA nil_mem nil_D rfl hl.1 rfl ⟨⟨by decide, by decide⟩, by decide, by decide⟩ (Nat.le_of_ble_eq_true rfl) dX12_of_36 (fun r_36 H locs hw hP hS => ?_)
          have hw := hw.symm
          subst hw
          refine g_ialdN (i := 15 + 5 * j + 1) XX hP 1 0 rfl rfl (by omega) (by decide) dX12_of_39 ?_
          refine g_top (y := C.2.2.2.1 j) (Rel.c1 hr (by omega)) ?_
          refine lv_goto (tgt := 56) zx zb dX12_of_40 (by decide) ?_
          exact fin _ _ (C.2.2.2.1 j) f 56 _ dX12_of_56 (fun h => by cases h) ⟨(of_ok c_5 c_17 (by omega) (of_v.2.1)), (by unfold moV ofOk; rw [c_5, c_17]; rfl)⟩ hP hD hS
      · subst hsp
        refine lv_iload_n zx zb dX12_of_25 rfl (lv_at hl 2 rfl) ?_
        refine lv_iconst (v := nI 5) zx zb dX12_of_26 (by decide) ?_
        refine lv_icmp_ge (tgt := 43) zx zb dX12_of_27 (by decide) (fun c_27 => ?_) (fun c_27 => ?_)
        · exact absurd c_27 (by decide)
        · clear c_27
          refine lv_aload_n zx zb dX12_of_30 rfl (lv_at hl 0 rfl) ?_
          refine g_get (v := .ref (m 1)) XX hP 0 0 rfl rfl rfl iwX12 0 (by decide) fl_X12_7 rfl dX12_of_31 ?_
          refine lv_iload_n zx zb dX12_of_34 rfl (lv_at hl 1 rfl) ?_
          refine lv_iload_n zx zb dX12_of_35 rfl (lv_at hl 2 rfl) ?_
          refine callR_Si (As := [.int (nI j), .int (nI 2)]) (rest := [.ref (m 1)]) XX cs_X12_73 (c_X12_at Γ l j 2 ) hP hD hS hA nil_mem nil_D rfl hl.1 rfl ⟨⟨by decide, by decide⟩, by decide, by decide⟩ (Nat.le_of_ble_eq_true rfl) dX12_of_36 (fun r_36 H locs hw hP hS => ?_)
          have hw := hw.symm
          subst hw
          refine g_ialdN (i := 15 + 5 * j + 2) XX hP 1 0 rfl rfl (by omega) (by decide) dX12_of_39 ?_
          refine g_top (y := C.2.2.2.2.1 j) (Rel.c2 hr (by omega)) ?_
          refine lv_goto (tgt := 56) zx zb dX12_of_40 (by decide) ?_
          exact fin _ _ (C.2.2.2.2.1 j) f 56 _ dX12_of_56 (fun h => by cases h) ⟨(of_ok c_5 c_17 (by omega) (of_v.2.2.1)), (by unfold moV ofOk; rw [c_5, c_17]; rfl)⟩ hP hD hS
      · subst hsp
        refine lv_iload_n zx zb dX12_of_25 rfl (lv_at hl 2 rfl) ?_
        refine lv_iconst (v := nI 5) zx zb dX12_of_26 (by decide) ?_
        refine lv_icmp_ge (tgt := 43) zx zb dX12_of_27 (by decide) (fun c_27 => ?_) (fun c_27 => ?_)
        · exact absurd c_27 (by decide)
        · clear c_27
          refine lv_aload_n zx zb dX12_of_30 rfl (lv_at hl 0 rfl) ?_
          refine g_get (v := .ref (m 1)) XX hP 0 0 rfl rfl rfl iwX12 0 (by decide) fl_X12_7 rfl dX12_of_31 ?_
          refine lv_iload_n zx zb dX12_of_34 rfl (lv_at hl 1 rfl) ?_
          refine lv_iload_n zx zb dX12_of_35 rfl (lv_at hl 2 rfl) ?_
          refine callR_Si (As := [.int (nI j), .int (nI 3)]) (rest := [.ref (m 1)]) XX cs_X12_73 (c_X12_at Γ l j 3 ) hP hD hS hA nil_mem nil_D rfl hl.1 rfl ⟨⟨by decide, by decide⟩, by decide, by decide⟩ (Nat.le_of_ble_eq_true rfl) dX12_of_36 (fun r_36 H locs hw hP hS => ?_)
          have hw := hw.symm
          subst hw
          refine g_ialdN (i := 15 + 5 * j + 3) XX hP 1 0 rfl rfl (by omega) (by decide) dX12_of_39 ?_
          refine g_top (y := Y.2.2.2.1 j) (Rel.c3 hr (by omega)) ?_
          refine lv_goto (tgt := 56) zx zb dX12_of_40 (by decide) ?_
          exact fin _ _ (Y.2.2.2.1 j) f 56 _ dX12_of_56 (fun h => by cases h) ⟨(of_ok c_5 c_17 (by omega) (of_v.2.2.2.1)), (by unfold moV ofOk; rw [c_5, c_17]; rfl)⟩ hP hD hS
      · subst hsp
        refine lv_iload_n zx zb dX12_of_25 rfl (lv_at hl 2 rfl) ?_
        refine lv_iconst (v := nI 5) zx zb dX12_of_26 (by decide) ?_
        refine lv_icmp_ge (tgt := 43) zx zb dX12_of_27 (by decide) (fun c_27 => ?_) (fun c_27 => ?_)
        · exact absurd c_27 (by decide)
        · clear c_27
          refine lv_aload_n zx zb dX12_of_30 rfl (lv_at hl 0 rfl) ?_
          refine g_get (v := .ref (m 1)) XX hP 0 0 rfl rfl rfl iwX12 0 (by decide) fl_X12_7 rfl dX12_of_31 ?_
          refine lv_iload_n zx zb dX12_of_34 rfl (lv_at hl 1 rfl) ?_
          refine lv_iload_n zx zb dX12_of_35 rfl (lv_at hl 2 rfl) ?_
          refine callR_Si (As := [.int (nI j), .int (nI 4)]) (rest := [.ref (m 1)]) XX cs_X12_73 (c_X12_at Γ l j 4 ) hP hD hS hA nil_mem nil_D rfl hl.1 rfl ⟨⟨by decide, by decide⟩, by decide, by decide⟩ (Nat.le_of_ble_eq_true rfl) dX12_of_36 (fun r_36 H locs hw hP hS => ?_)
          have hw := hw.symm
          subst hw
          refine g_ialdN (i := 15 + 5 * j + 4) XX hP 1 0 rfl rfl (by omega) (by decide) dX12_of_39 ?_
          refine g_top (y := Y.2.2.2.2 j) (Rel.c4 hr (by omega)) ?_
          refine lv_goto (tgt := 56) zx zb dX12_of_40 (by decide) ?_
          exact fin _ _ (Y.2.2.2.2 j) f 56 _ dX12_of_56 (fun h => by cases h) ⟨(of_ok c_5 c_17 (by omega) (of_v.2.2.2.2.1)), (by unfold moV ofOk; rw [c_5, c_17]; rfl)⟩ hP hD hS
      · subst hsp
        refine lv_iload_n zx zb dX12_of_25 rfl (lv_at hl 2 rfl) ?_
        refine lv_iconst (v := nI 5) zx zb dX12_of_26 (by decide) ?_
        refine lv_icmp_ge (tgt := 43) zx zb dX12_of_27 (by decide) (fun c_27 => ?_) (fun c_27 => ?_)
        · clear c_27
          refine lv_aload_n zx zb dX12_of_43 rfl (lv_at hl 0 rfl) ?_
          refine lv_iload_n zx zb dX12_of_44 rfl (lv_at hl 1 rfl) ?_
          refine call_Vi (As := [.int (nI j)]) (rest := []) XX cv_X12_206 (c_X12_isLost Γ l m M b C tr Y pc P j (hr) (by omega)) hP hD hS hA [0, 1] (by decide) rfl (fun _ => rfl) 0 0 rfl rfl rfl rfl hl.1 rfl ⟨⟨by decide, by decide⟩, by decide, by decide⟩ (Nat.le_of_ble_eq_true rfl) dX12_of_45 (fun r_45 u H locs hw hP hD hS => ?_)
          have hw := hw.symm
          subst hw
          have hP : bP Γ [bMo Γ m M, bA Γ (m 1) 259 b, bA Γ (m 6) 3 f] H := hP
          have hD : bD AA [bMo Γ m M, bA Γ (m 1) 259 b, bA Γ (m 6) 3 f] := hD
          refine lv_if_eq (tgt := 55) zx zb dX12_of_48 (by decide) (fun c_48 => ?_) (fun c_48 => ?_)
          · have c_48 : (yrLost Y j) = false := bI_0.mp c_48
            refine lv_iconst (v := nI 0) zx zb dX12_of_55 (by decide) ?_
            exact fin _ _ (nI 0) f 56 _ dX12_of_56 (fun h => by cases h) ⟨(of_ok c_5 c_17 (by omega) ((retF c_48).trans of_v.2.2.2.2.2)), (by unfold moV ofOk; rw [c_5, c_17]; rfl)⟩ hP hD hS
          · have c_48 : (yrLost Y j) = true := bI_ne c_48
            refine lv_iconst (v := nI 1) zx zb dX12_of_51 (by decide) ?_
            refine lv_goto (tgt := 56) zx zb dX12_of_52 (by decide) ?_
            exact fin _ _ (nI 1) f 56 _ dX12_of_56 (fun h => by cases h) ⟨(of_ok c_5 c_17 (by omega) ((retT c_48).trans of_v.2.2.2.2.2)), (by unfold moV ofOk; rw [c_5, c_17]; rfl)⟩ hP hD hS
        · exact absurd c_27 (by decide)
    · have c_17 : (wi w 0 5) = false := bI_0.mp c_17
      refine lv_aload_n zx zb dX12_of_20 rfl (lv_at hl 0 rfl) ?_
      refine call_Vi (As := []) (rest := []) XX cv_X12_59 (c_X12_bad Γ l m M f ) hP hD hS hA [0, 2] (by decide) rfl (fun _ => rfl) 0 0 rfl rfl rfl rfl hl.1 rfl ⟨⟨by decide, by decide⟩, by decide, by decide⟩ (Nat.le_of_ble_eq_true rfl) dX12_of_21 (fun r_21 u H locs hw hP hD hS => ?_)
      obtain ⟨hw1, hw2⟩ := hw
      have hw1 := hw1.symm
      have hw2 := hw2.symm
      subst hw1
      subst hw2
      have hP : bP Γ [bMo Γ m M, bA Γ (m 1) 259 b, bA Γ (m 6) 3 (moRef M f 0)] H := hP
      have hD : bD AA [bMo Γ m M, bA Γ (m 1) 259 b, bA Γ (m 6) 3 (moRef M f 0)] := hD
      exact fin _ _ (-2) (moRef M f 0) 24 _ dX12_of_24 (fun h => by cases h) ⟨(by simp [ofR, ofOk, c_5, c_17]), (by simp [moV, ofOk, c_5, c_17])⟩ hP hD hS

set_option maxHeartbeats 4000000 in
set_option maxRecDepth 100000 in
theorem c_X12_about (Γ : GG) (l : Launch) (m : Nat → Nat) (M : MoV) (b : Nat → Int32) (C : CoV) (tr : Nat → TrV) (Y : YrV) (pc : Nat) (P : Nat → YrV) (f : Nat → Int32) (a : Int32) (w : Int32) (hr : Rel b C tr Y pc P) (hI : Inv C tr Y) : Ci Γ l yX12_about cX12_about 4 (some (.int)) 2 46 0 0 [.ref (m 0), .int a, .int w] [bMo Γ m M, bA Γ (m 1) 259 b, bA Γ (m 6) 3 f] (fun (r : Int32) (u : Nat → Int32) => r = abR C tr Y a w ∧ u = moV M f (abOk C a w)) (fun (u : Nat → Int32) => [bMo Γ m M, bA Γ (m 1) 259 b, bA Γ (m 6) 3 u]) := by
  refine Ci.of (Or.inl rfl) (by decide) (Nat.le_of_ble_eq_true rfl) ?_
  intro pp ee ss mm bb me cd AA QQ XX hnm hA hP hD fin ls hl
  obtain ⟨zx, zb, hml, hown, hts, hK⟩ := id XX
  have hS : va_S AA ss.heap ss.heap [] := va_S.rf
  have hl : lv_has ls 4 [(0, .ref (m 0)), (1, .int a), (2, .int w)] := hl
  have htc := inv_tc hI
  have hdc := inv_dc hI
  have hn := inv_n hI
  refine lv_aload_n zx zb dX12_about_0 rfl (lv_at hl 0 rfl) ?_
  refine lv_iload_n zx zb dX12_about_1 rfl (lv_at hl 1 rfl) ?_
  refine call_Vi (As := [.int a]) (rest := []) XX cv_X12_99 (c_X12_isTreaty Γ l m M b C tr Y pc P a (hr)) hP hD hS hA [0, 1] (by decide) rfl (fun _ => rfl) 0 0 rfl rfl rfl rfl hl.1 rfl ⟨⟨by decide, by decide⟩, by decide, by decide⟩ (Nat.le_of_ble_eq_true rfl) dX12_about_2 (fun r_2 u H locs hw hP hD hS => ?_)
  have hw := hw.symm
  subst hw
  have hP : bP Γ [bMo Γ m M, bA Γ (m 1) 259 b, bA Γ (m 6) 3 f] H := hP
  have hD : bD AA [bMo Γ m M, bA Γ (m 1) 259 b, bA Γ (m 6) 3 f] := hD
  refine lv_if_eq (tgt := 20) zx zb dX12_about_5 (by decide) (fun c_5 => ?_) (fun c_5 => ?_)
  · have c_5 : (stTreaty C a) = false := bI_0.mp c_5
    refine lv_aload_n zx zb dX12_about_20 rfl (lv_at hl 0 rfl) ?_
    refine call_Vi (As := []) (rest := []) XX cv_X12_59 (c_X12_bad Γ l m M f ) hP hD hS hA [0, 2] (by decide) rfl (fun _ => rfl) 0 0 rfl rfl rfl rfl hl.1 rfl ⟨⟨by decide, by decide⟩, by decide, by decide⟩ (Nat.le_of_ble_eq_true rfl) dX12_about_21 (fun r_21 u H locs hw hP hD hS => ?_)
    obtain ⟨hw1, hw2⟩ := hw
    have hw1 := hw1.symm
    have hw2 := hw2.symm
    subst hw1
    subst hw2
    have hP : bP Γ [bMo Γ m M, bA Γ (m 1) 259 b, bA Γ (m 6) 3 (moRef M f 0)] H := hP
    have hD : bD AA [bMo Γ m M, bA Γ (m 1) 259 b, bA Γ (m 6) 3 (moRef M f 0)] := hD
    exact fin _ _ (-2) (moRef M f 0) 24 _ dX12_about_24 (fun h => by cases h) ⟨(by simp [abR, abOk, c_5]), (by simp [moV, abOk, c_5])⟩ hP hD hS
  · have c_5 : (stTreaty C a) = true := bI_ne c_5
    refine lv_iload_n zx zb dX12_about_8 rfl (lv_at hl 2 rfl) ?_
    refine lv_i2l (v := w.toInt64) zx zb dX12_about_9 rfl ?_
    refine lv_lconst (v := (0 : Int32).toInt64) zx zb dX12_about_10 (by decide) ?_
    refine lv_ldc2 zx zb hown (hts _ kl_X12_221) dX12_about_11 ?_
    refine g_topl (y := (4 : Int32).toInt64) (by decide) ?_
    refine callR_Si (As := [.long w.toInt64, .long ((0 : Int32).toInt64), .long ((4 : Int32).toInt64)]) (rest := []) XX cs_X12_53 (c_X12_in Γ l w 0 4 ) hP hD hS hA nil_mem nil_D rfl hl.1 rfl ⟨⟨by decide, by decide⟩, by decide, by decide⟩ (Nat.le_of_ble_eq_true rfl) dX12_about_14 (fun r_14 H locs hw hP hS => ?_)
    have hw := hw.symm
    subst hw
    refine lv_if_ne (tgt := 25) zx zb dX12_about_17 (by decide) (fun c_17 => ?_) (fun c_17 => ?_)
    · have c_17 : (wi w 0 4) = true := bI_ne c_17
      obtain ⟨j, hj, rfl⟩ := treaty_nat c_5 htc
      obtain ⟨k1, hk1, rfl⟩ := wi_nat 0 4 c_17 rfl rfl (by decide)
      rcases (show k1 = 0 ∨ k1 = 1 ∨ k1 = 2 ∨ k1 = 3 ∨ k1 = 4 by omega) with hsp | hsp | hsp | hsp | hsp
      · subst hsp
        refine lv_iload_n zx zb dX12_about_25 rfl (lv_at hl 2 rfl) ?_
        refine lv_iconst (v := nI 3) zx zb dX12_about_26 (by decide) ?_
        refine lv_icmp_ne (tgt := 44) zx zb dX12_about_27 (by decide) (fun c_27 => ?_) (fun c_27 => ?_)
        · clear c_27
          refine lv_aload_n zx zb dX12_about_44 rfl (lv_at hl 0 rfl) ?_
          refine g_get (v := .ref (m 1)) XX hP 0 0 rfl rfl rfl iwX12 0 (by decide) fl_X12_7 rfl dX12_about_45 ?_
          refine lv_iload_n zx zb dX12_about_48 rfl (lv_at hl 1 rfl) ?_
          refine lv_iconst (v := nI 4) zx zb dX12_about_49 (by decide) ?_
          refine callR_Si (As := [.int (nI j), .int (nI 4)]) (rest := [.ref (m 1)]) XX cs_X12_96 (c_X12_of0 Γ l j 4 ) hP hD hS hA nil_mem nil_D rfl hl.1 rfl ⟨⟨by decide, by decide⟩, by decide, by decide⟩ (Nat.le_of_ble_eq_true rfl) dX12_about_50 (fun r_50 H locs hw hP hS => ?_)
          have hw := hw.symm
          subst hw
          refine g_ialdN (i := 55 + 7 * j + 4) XX hP 1 0 rfl rfl (by omega) (by decide) dX12_about_53 ?_
          refine g_top (y := (tr j).2.2.2.2.2.1) (Rel.t4 hr (by omega)) ?_
          refine lv_istore_n (lv' := [(3, .int ((tr j).2.2.2.2.2.1)), (0, .ref (m 0)), (1, .int (nI j)), (2, .int (nI 0))]) zx zb dX12_about_54 rfl hl (by decide) rfl (fun ls hl => ?_)
          refine lv_iload_n zx zb dX12_about_55 rfl (lv_at hl 3 rfl) ?_
          refine lv_if_ne (tgt := 72) zx zb dX12_about_56 (by decide) (fun c_56 => ?_) (fun c_56 => ?_)
          · exact absurd c_56 (by decide)
          · clear c_56
            refine lv_aload_n zx zb dX12_about_59 rfl (lv_at hl 1 rfl) ?_
            refine g_get (v := .ref (m 1)) XX hP 0 0 rfl rfl rfl iwX12 0 (by decide) fl_X12_7 rfl dX12_about_60 ?_
            refine lv_iload_n zx zb dX12_about_63 rfl (lv_at hl 2 rfl) ?_
            refine lv_iconst (v := nI 0) zx zb dX12_about_64 (by decide) ?_
            refine callR_Si (As := [.int (nI j), .int (nI 0)]) (rest := [.ref (m 1)]) XX cs_X12_96 (c_X12_of0 Γ l j 0 ) hP hD hS hA nil_mem nil_D rfl hl.1 rfl ⟨⟨by decide, by decide⟩, by decide, by decide⟩ (Nat.le_of_ble_eq_true rfl) dX12_about_65 (fun r_65 H locs hw hP hS => ?_)
            have hw := hw.symm
            subst hw
            refine g_ialdN (i := 55 + 7 * j + 0) XX hP 1 0 rfl rfl (by omega) (by decide) dX12_about_68 ?_
            refine g_top (y := nI ((tr j).1)) (Rel.t0 hr (by omega)) ?_
            refine lv_goto (tgt := 105) zx zb dX12_about_69 (by decide) ?_
            exact fin _ _ (nI ((tr j).1)) f 105 _ dX12_about_105 (fun h => by cases h) ⟨(ab_ok c_5 c_17 (by omega) ((inv_kk hI (by omega)).trans ab_v.1)), (by unfold moV abOk; rw [c_5, c_17]; rfl)⟩ hP hD hS
        · exact absurd c_27 (by decide)
      · subst hsp
        refine lv_iload_n zx zb dX12_about_25 rfl (lv_at hl 2 rfl) ?_
        refine lv_iconst (v := nI 3) zx zb dX12_about_26 (by decide) ?_
        refine lv_icmp_ne (tgt := 44) zx zb dX12_about_27 (by decide) (fun c_27 => ?_) (fun c_27 => ?_)
        · clear c_27
          refine lv_aload_n zx zb dX12_about_44 rfl (lv_at hl 0 rfl) ?_
          refine g_get (v := .ref (m 1)) XX hP 0 0 rfl rfl rfl iwX12 0 (by decide) fl_X12_7 rfl dX12_about_45 ?_
          refine lv_iload_n zx zb dX12_about_48 rfl (lv_at hl 1 rfl) ?_
          refine lv_iconst (v := nI 4) zx zb dX12_about_49 (by decide) ?_
          refine callR_Si (As := [.int (nI j), .int (nI 4)]) (rest := [.ref (m 1)]) XX cs_X12_96 (c_X12_of0 Γ l j 4 ) hP hD hS hA nil_mem nil_D rfl hl.1 rfl ⟨⟨by decide, by decide⟩, by decide, by decide⟩ (Nat.le_of_ble_eq_true rfl) dX12_about_50 (fun r_50 H locs hw hP hS => ?_)
          have hw := hw.symm
          subst hw
          refine g_ialdN (i := 55 + 7 * j + 4) XX hP 1 0 rfl rfl (by omega) (by decide) dX12_about_53 ?_
          refine g_top (y := (tr j).2.2.2.2.2.1) (Rel.t4 hr (by omega)) ?_
          refine lv_istore_n (lv' := [(3, .int ((tr j).2.2.2.2.2.1)), (0, .ref (m 0)), (1, .int (nI j)), (2, .int (nI 1))]) zx zb dX12_about_54 rfl hl (by decide) rfl (fun ls hl => ?_)
          refine lv_iload_n zx zb dX12_about_55 rfl (lv_at hl 3 rfl) ?_
          refine lv_if_ne (tgt := 72) zx zb dX12_about_56 (by decide) (fun c_56 => ?_) (fun c_56 => ?_)
          · clear c_56
            refine lv_iload_n zx zb dX12_about_72 rfl (lv_at hl 3 rfl) ?_
            refine lv_iconst (v := nI 1) zx zb dX12_about_73 (by decide) ?_
            refine lv_icmp_ne (tgt := 85) zx zb dX12_about_74 (by decide) (fun c_74 => ?_) (fun c_74 => ?_)
            · exact absurd c_74 (by decide)
            · clear c_74
              refine lv_aload_n zx zb dX12_about_77 rfl (lv_at hl 1 rfl) ?_
              refine lv_iload_n zx zb dX12_about_78 rfl (lv_at hl 2 rfl) ?_
              refine call_Vi (As := [.int (nI j)]) (rest := []) XX cv_X12_187 (c_X12_costs Γ l m M b C tr Y pc P j (hr) (hI) (by omega)) hP hD hS hA [0, 1] (by decide) rfl (fun _ => rfl) 0 0 rfl rfl rfl rfl hl.1 rfl ⟨⟨by decide, by decide⟩, by decide, by decide⟩ (Nat.le_of_ble_eq_true rfl) dX12_about_79 (fun r_79 u H locs hw hP hD hS => ?_)
              have hw := hw.symm
              subst hw
              have hP : bP Γ [bMo Γ m M, bA Γ (m 1) 259 b, bA Γ (m 6) 3 f] H := hP
              have hD : bD AA [bMo Γ m M, bA Γ (m 1) 259 b, bA Γ (m 6) 3 f] := hD
              refine lv_goto (tgt := 105) zx zb dX12_about_82 (by decide) ?_
              exact fin _ _ (tCosts (tr j)) f 105 _ dX12_about_105 (fun h => by cases h) ⟨(ab_ok c_5 c_17 (by omega) (ab_v.2.1)), (by unfold moV abOk; rw [c_5, c_17]; rfl)⟩ hP hD hS
          · exact absurd c_56 (by decide)
        · exact absurd c_27 (by decide)
      · subst hsp
        refine lv_iload_n zx zb dX12_about_25 rfl (lv_at hl 2 rfl) ?_
        refine lv_iconst (v := nI 3) zx zb dX12_about_26 (by decide) ?_
        refine lv_icmp_ne (tgt := 44) zx zb dX12_about_27 (by decide) (fun c_27 => ?_) (fun c_27 => ?_)
        · clear c_27
          refine lv_aload_n zx zb dX12_about_44 rfl (lv_at hl 0 rfl) ?_
          refine g_get (v := .ref (m 1)) XX hP 0 0 rfl rfl rfl iwX12 0 (by decide) fl_X12_7 rfl dX12_about_45 ?_
          refine lv_iload_n zx zb dX12_about_48 rfl (lv_at hl 1 rfl) ?_
          refine lv_iconst (v := nI 4) zx zb dX12_about_49 (by decide) ?_
          refine callR_Si (As := [.int (nI j), .int (nI 4)]) (rest := [.ref (m 1)]) XX cs_X12_96 (c_X12_of0 Γ l j 4 ) hP hD hS hA nil_mem nil_D rfl hl.1 rfl ⟨⟨by decide, by decide⟩, by decide, by decide⟩ (Nat.le_of_ble_eq_true rfl) dX12_about_50 (fun r_50 H locs hw hP hS => ?_)
          have hw := hw.symm
          subst hw
          refine g_ialdN (i := 55 + 7 * j + 4) XX hP 1 0 rfl rfl (by omega) (by decide) dX12_about_53 ?_
          refine g_top (y := (tr j).2.2.2.2.2.1) (Rel.t4 hr (by omega)) ?_
          refine lv_istore_n (lv' := [(3, .int ((tr j).2.2.2.2.2.1)), (0, .ref (m 0)), (1, .int (nI j)), (2, .int (nI 2))]) zx zb dX12_about_54 rfl hl (by decide) rfl (fun ls hl => ?_)
          refine lv_iload_n zx zb dX12_about_55 rfl (lv_at hl 3 rfl) ?_
          refine lv_if_ne (tgt := 72) zx zb dX12_about_56 (by decide) (fun c_56 => ?_) (fun c_56 => ?_)
          · clear c_56
            refine lv_iload_n zx zb dX12_about_72 rfl (lv_at hl 3 rfl) ?_
            refine lv_iconst (v := nI 1) zx zb dX12_about_73 (by decide) ?_
            refine lv_icmp_ne (tgt := 85) zx zb dX12_about_74 (by decide) (fun c_74 => ?_) (fun c_74 => ?_)
            · clear c_74
              refine lv_iload_n zx zb dX12_about_85 rfl (lv_at hl 3 rfl) ?_
              refine lv_iconst (v := nI 2) zx zb dX12_about_86 (by decide) ?_
              refine lv_icmp_ne (tgt := 104) zx zb dX12_about_87 (by decide) (fun c_87 => ?_) (fun c_87 => ?_)
              · exact absurd c_87 (by decide)
              · clear c_87
                refine lv_aload_n zx zb dX12_about_90 rfl (lv_at hl 1 rfl) ?_
                refine lv_iload_n zx zb dX12_about_91 rfl (lv_at hl 2 rfl) ?_
                refine lv_aload_n zx zb dX12_about_92 rfl (lv_at hl 1 rfl) ?_
                refine g_get (v := .ref (m 1)) XX hP 0 0 rfl rfl rfl iwX12 0 (by decide) fl_X12_7 rfl dX12_about_93 ?_
                refine lv_iconst (v := nI 1) zx zb dX12_about_96 (by decide) ?_
                refine g_ialdN (i := 1) XX hP 1 0 rfl rfl (by omega) (by decide) dX12_about_97 ?_
                refine g_top (y := Y.1) (Rel.y hr) ?_
                refine call_Vi (As := [.int (nI j), .int Y.1]) (rest := []) XX cv_X12_193 (c_X12_holds Γ l m M b C tr Y pc P j Y.1 (hr) (hI) (by omega)) hP hD hS hA [0, 1] (by decide) rfl (fun _ => rfl) 0 0 rfl rfl rfl rfl hl.1 rfl ⟨⟨by decide, by decide⟩, by decide, by decide⟩ (Nat.le_of_ble_eq_true rfl) dX12_about_98 (fun r_98 u H locs hw hP hD hS => ?_)
                have hw := hw.symm
                subst hw
                have hP : bP Γ [bMo Γ m M, bA Γ (m 1) 259 b, bA Γ (m 6) 3 f] H := hP
                have hD : bD AA [bMo Γ m M, bA Γ (m 1) 259 b, bA Γ (m 6) 3 f] := hD
                refine lv_goto (tgt := 105) zx zb dX12_about_101 (by decide) ?_
                exact fin _ _ (kHolds (tr j).1 (coSpring C Y.1)) f 105 _ dX12_about_105 (fun h => by cases h) ⟨(ab_ok c_5 c_17 (by omega) (ab_v.2.2.1)), (by unfold moV abOk; rw [c_5, c_17]; rfl)⟩ hP hD hS
            · exact absurd c_74 (by decide)
          · exact absurd c_56 (by decide)
        · exact absurd c_27 (by decide)
      · subst hsp
        refine lv_iload_n zx zb dX12_about_25 rfl (lv_at hl 2 rfl) ?_
        refine lv_iconst (v := nI 3) zx zb dX12_about_26 (by decide) ?_
        refine lv_icmp_ne (tgt := 44) zx zb dX12_about_27 (by decide) (fun c_27 => ?_) (fun c_27 => ?_)
        · exact absurd c_27 (by decide)
        · clear c_27
          refine lv_aload_n zx zb dX12_about_30 rfl (lv_at hl 0 rfl) ?_
          refine g_get (v := .ref (m 1)) XX hP 0 0 rfl rfl rfl iwX12 0 (by decide) fl_X12_7 rfl dX12_about_31 ?_
          refine lv_iload_n zx zb dX12_about_34 rfl (lv_at hl 1 rfl) ?_
          refine lv_bipush (v := nI 6) zx zb dX12_about_35 (by decide) ?_
          refine callR_Si (As := [.int (nI j), .int (nI 6)]) (rest := [.ref (m 1)]) XX cs_X12_96 (c_X12_of0 Γ l j 6 ) hP hD hS hA nil_mem nil_D rfl hl.1 rfl ⟨⟨by decide, by decide⟩, by decide, by decide⟩ (Nat.le_of_ble_eq_true rfl) dX12_about_37 (fun r_37 H locs hw hP hS => ?_)
          have hw := hw.symm
          subst hw
          refine g_ialdN (i := 55 + 7 * j + 6) XX hP 1 0 rfl rfl (by omega) (by decide) dX12_about_40 ?_
          refine g_top (y := bI (yrBr Y j)) (Rel.t6 hr (by omega)) ?_
          refine lv_goto (tgt := 54) zx zb dX12_about_41 (by decide) ?_
          refine lv_istore_n (lv' := [(3, .int (bI (yrBr Y j))), (0, .ref (m 0)), (1, .int (nI j)), (2, .int (nI 3))]) zx zb dX12_about_54 rfl hl (by decide) rfl (fun ls hl => ?_)
          refine lv_iload_n zx zb dX12_about_55 rfl (lv_at hl 3 rfl) ?_
          refine lv_if_ne (tgt := 72) zx zb dX12_about_56 (by decide) (fun c_56 => ?_) (fun c_56 => ?_)
          · clear c_56
            refine lv_iload_n zx zb dX12_about_72 rfl (lv_at hl 3 rfl) ?_
            refine lv_iconst (v := nI 1) zx zb dX12_about_73 (by decide) ?_
            refine lv_icmp_ne (tgt := 85) zx zb dX12_about_74 (by decide) (fun c_74 => ?_) (fun c_74 => ?_)
            · clear c_74
              refine lv_iload_n zx zb dX12_about_85 rfl (lv_at hl 3 rfl) ?_
              refine lv_iconst (v := nI 2) zx zb dX12_about_86 (by decide) ?_
              refine lv_icmp_ne (tgt := 104) zx zb dX12_about_87 (by decide) (fun c_87 => ?_) (fun c_87 => ?_)
              · clear c_87
                refine lv_iload_n zx zb dX12_about_104 rfl (lv_at hl 0 rfl) ?_
                exact fin _ _ (bI (yrBr Y j)) f 105 _ dX12_about_105 (fun h => by cases h) ⟨(ab_ok c_5 c_17 (by omega) (ab_v.2.2.2.1)), (by unfold moV abOk; rw [c_5, c_17]; rfl)⟩ hP hD hS
              · exact absurd c_87 (by decide)
            · exact absurd c_74 (by decide)
          · exact absurd c_56 (by decide)
      · subst hsp
        refine lv_iload_n zx zb dX12_about_25 rfl (lv_at hl 2 rfl) ?_
        refine lv_iconst (v := nI 3) zx zb dX12_about_26 (by decide) ?_
        refine lv_icmp_ne (tgt := 44) zx zb dX12_about_27 (by decide) (fun c_27 => ?_) (fun c_27 => ?_)
        · clear c_27
          refine lv_aload_n zx zb dX12_about_44 rfl (lv_at hl 0 rfl) ?_
          refine g_get (v := .ref (m 1)) XX hP 0 0 rfl rfl rfl iwX12 0 (by decide) fl_X12_7 rfl dX12_about_45 ?_
          refine lv_iload_n zx zb dX12_about_48 rfl (lv_at hl 1 rfl) ?_
          refine lv_iconst (v := nI 4) zx zb dX12_about_49 (by decide) ?_
          refine callR_Si (As := [.int (nI j), .int (nI 4)]) (rest := [.ref (m 1)]) XX cs_X12_96 (c_X12_of0 Γ l j 4 ) hP hD hS hA nil_mem nil_D rfl hl.1 rfl ⟨⟨by decide, by decide⟩, by decide, by decide⟩ (Nat.le_of_ble_eq_true rfl) dX12_about_50 (fun r_50 H locs hw hP hS => ?_)
          have hw := hw.symm
          subst hw
          refine g_ialdN (i := 55 + 7 * j + 4) XX hP 1 0 rfl rfl (by omega) (by decide) dX12_about_53 ?_
          refine g_top (y := (tr j).2.2.2.2.2.1) (Rel.t4 hr (by omega)) ?_
          refine lv_istore_n (lv' := [(3, .int ((tr j).2.2.2.2.2.1)), (0, .ref (m 0)), (1, .int (nI j)), (2, .int (nI 4))]) zx zb dX12_about_54 rfl hl (by decide) rfl (fun ls hl => ?_)
          refine lv_iload_n zx zb dX12_about_55 rfl (lv_at hl 3 rfl) ?_
          refine lv_if_ne (tgt := 72) zx zb dX12_about_56 (by decide) (fun c_56 => ?_) (fun c_56 => ?_)
          · clear c_56
            refine lv_iload_n zx zb dX12_about_72 rfl (lv_at hl 3 rfl) ?_
            refine lv_iconst (v := nI 1) zx zb dX12_about_73 (by decide) ?_
            refine lv_icmp_ne (tgt := 85) zx zb dX12_about_74 (by decide) (fun c_74 => ?_) (fun c_74 => ?_)
            · clear c_74
              refine lv_iload_n zx zb dX12_about_85 rfl (lv_at hl 3 rfl) ?_
              refine lv_iconst (v := nI 2) zx zb dX12_about_86 (by decide) ?_
              refine lv_icmp_ne (tgt := 104) zx zb dX12_about_87 (by decide) (fun c_87 => ?_) (fun c_87 => ?_)
              · clear c_87
                refine lv_iload_n zx zb dX12_about_104 rfl (lv_at hl 0 rfl) ?_
                exact fin _ _ ((tr j).2.2.2.2.2.1) f 105 _ dX12_about_105 (fun h => by cases h) ⟨(ab_ok c_5 c_17 (by omega) (ab_v.2.2.2.2)), (by unfold moV abOk; rw [c_5, c_17]; rfl)⟩ hP hD hS
              · exact absurd c_87 (by decide)
            · exact absurd c_74 (by decide)
          · exact absurd c_56 (by decide)
        · exact absurd c_27 (by decide)
    · have c_17 : (wi w 0 4) = false := bI_0.mp c_17
      refine lv_aload_n zx zb dX12_about_20 rfl (lv_at hl 0 rfl) ?_
      refine call_Vi (As := []) (rest := []) XX cv_X12_59 (c_X12_bad Γ l m M f ) hP hD hS hA [0, 2] (by decide) rfl (fun _ => rfl) 0 0 rfl rfl rfl rfl hl.1 rfl ⟨⟨by decide, by decide⟩, by decide, by decide⟩ (Nat.le_of_ble_eq_true rfl) dX12_about_21 (fun r_21 u H locs hw hP hD hS => ?_)
      obtain ⟨hw1, hw2⟩ := hw
      have hw1 := hw1.symm
      have hw2 := hw2.symm
      subst hw1
      subst hw2
      have hP : bP Γ [bMo Γ m M, bA Γ (m 1) 259 b, bA Γ (m 6) 3 (moRef M f 0)] H := hP
      have hD : bD AA [bMo Γ m M, bA Γ (m 1) 259 b, bA Γ (m 6) 3 (moRef M f 0)] := hD
      exact fin _ _ (-2) (moRef M f 0) 24 _ dX12_about_24 (fun h => by cases h) ⟨(by simp [abR, abOk, c_5, c_17]), (by simp [moV, abOk, c_5, c_17])⟩ hP hD hS

set_option maxHeartbeats 4000000 in
set_option maxRecDepth 100000 in
theorem c_X12_letsIn (Γ : GG) (l : Launch) (m : Nat → Nat) (M : MoV) (b : Nat → Int32) (C : CoV) (tr : Nat → TrV) (Y : YrV) (pc : Nat) (P : Nat → YrV) (f : Nat → Int32) (a : Int32) (w : Int32) (hr : Rel b C tr Y pc P) (hI : Inv C tr Y) : Ci Γ l yX12_letsIn cX12_letsIn 5 (some (.int)) 5 114 0 0 [.ref (m 0), .int a, .int w] [bMo Γ m M, bA Γ (m 1) 259 b, bA Γ (m 6) 3 f] (fun (r : Int32) (u : Nat → Int32) => r = leR C tr Y a w ∧ u = moV M f (leOk a w)) (fun (u : Nat → Int32) => [bMo Γ m M, bA Γ (m 1) 259 b, bA Γ (m 6) 3 u]) := by
  refine Ci.of (Or.inl rfl) (by decide) (Nat.le_of_ble_eq_true rfl) ?_
  intro pp ee ss mm bb me cd AA QQ XX hnm hA hP hD fin ls hl
  obtain ⟨zx, zb, hml, hown, hts, hK⟩ := id XX
  have hS : va_S AA ss.heap ss.heap [] := va_S.rf
  have hl : lv_has ls 5 [(0, .ref (m 0)), (1, .int a), (2, .int w)] := hl
  have htc := inv_tc hI
  have hdc := inv_dc hI
  have hn := inv_n hI
  refine lv_iload_n zx zb dX12_letsIn_0 rfl (lv_at hl 1 rfl) ?_
  refine lv_i2l (v := a.toInt64) zx zb dX12_letsIn_1 rfl ?_
  refine lv_lconst (v := (0 : Int32).toInt64) zx zb dX12_letsIn_2 (by decide) ?_
  refine lv_ldc2 zx zb hown (hts _ kl_X12_71) dX12_letsIn_3 ?_
  refine g_topl (y := (2 : Int32).toInt64) (by decide) ?_
  refine callR_Si (As := [.long a.toInt64, .long ((0 : Int32).toInt64), .long ((2 : Int32).toInt64)]) (rest := []) XX cs_X12_53 (c_X12_in Γ l a 0 2 ) hP hD hS hA nil_mem nil_D rfl hl.1 rfl ⟨⟨by decide, by decide⟩, by decide, by decide⟩ (Nat.le_of_ble_eq_true rfl) dX12_letsIn_6 (fun r_6 H locs hw hP hS => ?_)
  have hw := hw.symm
  subst hw
  refine lv_if_eq (tgt := 22) zx zb dX12_letsIn_9 (by decide) (fun c_9 => ?_) (fun c_9 => ?_)
  · have c_9 : (wi a 0 2) = false := bI_0.mp c_9
    refine lv_aload_n zx zb dX12_letsIn_22 rfl (lv_at hl 0 rfl) ?_
    refine call_Vi (As := []) (rest := []) XX cv_X12_59 (c_X12_bad Γ l m M f ) hP hD hS hA [0, 2] (by decide) rfl (fun _ => rfl) 0 0 rfl rfl rfl rfl hl.1 rfl ⟨⟨by decide, by decide⟩, by decide, by decide⟩ (Nat.le_of_ble_eq_true rfl) dX12_letsIn_23 (fun r_23 u H locs hw hP hD hS => ?_)
    obtain ⟨hw1, hw2⟩ := hw
    have hw1 := hw1.symm
    have hw2 := hw2.symm
    subst hw1
    subst hw2
    have hP : bP Γ [bMo Γ m M, bA Γ (m 1) 259 b, bA Γ (m 6) 3 (moRef M f 0)] H := hP
    have hD : bD AA [bMo Γ m M, bA Γ (m 1) 259 b, bA Γ (m 6) 3 (moRef M f 0)] := hD
    exact fin _ _ (-2) (moRef M f 0) 26 _ dX12_letsIn_26 (fun h => by cases h) ⟨(by simp [leR, leOk, c_9]), (by simp [moV, leOk, c_9])⟩ hP hD hS
  · have c_9 : (wi a 0 2) = true := bI_ne c_9
    refine lv_iload_n zx zb dX12_letsIn_12 rfl (lv_at hl 2 rfl) ?_
    refine lv_i2l (v := w.toInt64) zx zb dX12_letsIn_13 rfl ?_
    refine lv_lconst (v := (0 : Int32).toInt64) zx zb dX12_letsIn_14 (by decide) ?_
    refine lv_lconst (v := (1 : Int32).toInt64) zx zb dX12_letsIn_15 (by decide) ?_
    refine callR_Si (As := [.long w.toInt64, .long ((0 : Int32).toInt64), .long ((1 : Int32).toInt64)]) (rest := []) XX cs_X12_53 (c_X12_in Γ l w 0 1 ) hP hD hS hA nil_mem nil_D rfl hl.1 rfl ⟨⟨by decide, by decide⟩, by decide, by decide⟩ (Nat.le_of_ble_eq_true rfl) dX12_letsIn_16 (fun r_16 H locs hw hP hS => ?_)
    have hw := hw.symm
    subst hw
    refine lv_if_ne (tgt := 27) zx zb dX12_letsIn_19 (by decide) (fun c_19 => ?_) (fun c_19 => ?_)
    · have c_19 : (wi w 0 1) = true := bI_ne c_19
      obtain ⟨j, hj, rfl⟩ := wi_nat 0 2 c_9 rfl rfl (by decide)
      refine lv_aload_n zx zb dX12_letsIn_27 rfl (lv_at hl 0 rfl) ?_
      refine lv_iconst (v := nI 1) zx zb dX12_letsIn_28 (by decide) ?_
      refine lv_iload_n zx zb dX12_letsIn_29 rfl (lv_at hl 1 rfl) ?_
      refine lv_ishl zx zb dX12_letsIn_30 ?_
      refine g_top (y := bit j) (sh31l _ (by omega)) ?_
      refine call_Vi (As := [.int (bit j)]) (rest := []) XX cv_X12_226 (c_X12_wetNow Γ l m M b C tr Y pc P (bit j) (coTown C (nI j) C.1) (hr) (hI) (le_hb hI (by omega))) hP hD hS hA [0, 1] (by decide) rfl (fun _ => rfl) 0 0 rfl rfl rfl rfl hl.1 rfl ⟨⟨by decide, by decide⟩, by decide, by decide⟩ (Nat.le_of_ble_eq_true rfl) dX12_letsIn_31 (fun r_31 u H locs hw hP hD hS => ?_)
      have hw := hw.symm
      subst hw
      have hP : bP Γ [bMo Γ m M, bA Γ (m 1) 259 b, bA Γ (m 6) 3 f] H := hP
      have hD : bD AA [bMo Γ m M, bA Γ (m 1) 259 b, bA Γ (m 6) 3 f] := hD
      refine lv_aload_n zx zb dX12_letsIn_34 rfl (lv_at hl 0 rfl) ?_
      refine lv_iconst (v := nI 0) zx zb dX12_letsIn_35 (by decide) ?_
      refine call_Vi (As := [.int (nI 0)]) (rest := [.int (ttWet C tr Y (coTown C (nI j) C.1))]) XX cv_X12_226 (c_X12_wetNow Γ l m M b C tr Y pc P 0 0 (hr) (hI) (fun x _ t _ _ => by rw [hasB_0, hasB_0])) hP hD hS hA [0, 1] (by decide) rfl (fun _ => rfl) 0 0 rfl rfl rfl rfl hl.1 rfl ⟨⟨by decide, by decide⟩, by decide, by decide⟩ (Nat.le_of_ble_eq_true rfl) dX12_letsIn_36 (fun r_36 u H locs hw hP hD hS => ?_)
      have hw := hw.symm
      subst hw
      have hP : bP Γ [bMo Γ m M, bA Γ (m 1) 259 b, bA Γ (m 6) 3 f] H := hP
      have hD : bD AA [bMo Γ m M, bA Γ (m 1) 259 b, bA Γ (m 6) 3 f] := hD
      refine lv_iconst (v := (-1)) zx zb dX12_letsIn_39 (by decide) ?_
      refine lv_ixor zx zb dX12_letsIn_40 ?_
      refine lv_iand zx zb dX12_letsIn_41 ?_
      refine lv_istore_n (lv' := [(3, .int ((ttWet C tr Y (coTown C (nI j) C.1)) &&& ((ttWet C tr Y 0) ^^^ (-1)))), (0, .ref (m 0)), (1, .int (nI j)), (2, .int w)]) zx zb dX12_letsIn_42 rfl hl (by decide) rfl (fun ls hl => ?_)
      refine lv_aload_n zx zb dX12_letsIn_43 rfl (lv_at hl 1 rfl) ?_
      refine lv_iload_n zx zb dX12_letsIn_44 rfl (lv_at hl 2 rfl) ?_
      refine call_Vi (As := [.int (nI j)]) (rest := []) XX cv_X12_264 (c_X12_cellsOf Γ l m M b C tr Y pc P (nI j) (hr) (hI)) hP hD hS hA [0, 1] (by decide) rfl (fun _ => rfl) 0 0 rfl rfl rfl rfl hl.1 rfl ⟨⟨by decide, by decide⟩, by decide, by decide⟩ (Nat.le_of_ble_eq_true rfl) dX12_letsIn_45 (fun r_45 u H locs hw hP hD hS => ?_)
      have hw := hw.symm
      subst hw
      have hP : bP Γ [bMo Γ m M, bA Γ (m 1) 259 b, bA Γ (m 6) 3 f] H := hP
      have hD : bD AA [bMo Γ m M, bA Γ (m 1) 259 b, bA Γ (m 6) 3 f] := hD
      refine lv_istore (lv' := [(4, .int (coTown C (nI j) C.1)), (3, .int ((ttWet C tr Y (coTown C (nI j) C.1)) &&& ((ttWet C tr Y 0) ^^^ (-1)))), (0, .ref (m 0)), (1, .int (nI j)), (2, .int w)]) zx zb dX12_letsIn_48 hl (by decide) rfl (fun ls hl => ?_)
      refine lv_aload_n zx zb dX12_letsIn_50 rfl (lv_at hl 2 rfl) ?_
      refine lv_iload_n zx zb dX12_letsIn_51 rfl (lv_at hl 4 rfl) ?_
      refine lv_if_ne (tgt := 62) zx zb dX12_letsIn_52 (by decide) (fun c_52 => ?_) (fun c_52 => ?_)
      · have c_52 : ¬ (w = (0 : Int32)) := c_52
        refine lv_iload_n zx zb dX12_letsIn_62 rfl (lv_at hl 1 rfl) ?_
        refine lv_iload zx zb dX12_letsIn_63 (lv_at hl 0 rfl) ?_
        refine lv_iconst (v := (-1)) zx zb dX12_letsIn_65 (by decide) ?_
        refine lv_ixor zx zb dX12_letsIn_66 ?_
        refine lv_iand zx zb dX12_letsIn_67 ?_
        refine call_Vi (As := [.int (((ttWet C tr Y (coTown C (nI j) C.1)) &&& ((ttWet C tr Y 0) ^^^ (-1))) &&& ((coTown C (nI j) C.1) ^^^ (-1)))]) (rest := []) XX cv_X12_229 (c_X12_worthOf Γ l m M b C tr Y pc P (((ttWet C tr Y (coTown C (nI j) C.1)) &&& ((ttWet C tr Y 0) ^^^ (-1))) &&& ((coTown C (nI j) C.1) ^^^ (-1))) (hr) (hI)) hP hD hS hA [0, 1] (by decide) rfl (fun _ => rfl) 0 0 rfl rfl rfl rfl hl.1 rfl ⟨⟨by decide, by decide⟩, by decide, by decide⟩ (Nat.le_of_ble_eq_true rfl) dX12_letsIn_68 (fun r_68 u H locs hw hP hD hS => ?_)
        have hw := hw.symm
        subst hw
        have hP : bP Γ [bMo Γ m M, bA Γ (m 1) 259 b, bA Γ (m 6) 3 f] H := hP
        have hD : bD AA [bMo Γ m M, bA Γ (m 1) 259 b, bA Γ (m 6) 3 f] := hD
        exact fin _ _ (stWorth C Y (((ttWet C tr Y (coTown C (nI j) C.1)) &&& ((ttWet C tr Y 0) ^^^ (-1))) &&& ((coTown C (nI j) C.1) ^^^ (-1)))) f 71 _ dX12_letsIn_71 (fun h => by cases h) ⟨(by unfold leR leOk; rw [c_9, c_19]; first | (simp only [Bool.and_self, if_true, if_pos c_52]; rfl) | (simp only [Bool.and_self, if_true, if_neg c_52]; rfl)), (by unfold moV leOk; rw [c_9, c_19]; rfl)⟩ hP hD hS
      · have c_52 : w = (0 : Int32) := c_52
        refine lv_iload_n zx zb dX12_letsIn_55 rfl (lv_at hl 1 rfl) ?_
        refine lv_iload zx zb dX12_letsIn_56 (lv_at hl 0 rfl) ?_
        refine lv_iand zx zb dX12_letsIn_58 ?_
        refine lv_goto (tgt := 68) zx zb dX12_letsIn_59 (by decide) ?_
        refine call_Vi (As := [.int (((ttWet C tr Y (coTown C (nI j) C.1)) &&& ((ttWet C tr Y 0) ^^^ (-1))) &&& (coTown C (nI j) C.1))]) (rest := []) XX cv_X12_229 (c_X12_worthOf Γ l m M b C tr Y pc P (((ttWet C tr Y (coTown C (nI j) C.1)) &&& ((ttWet C tr Y 0) ^^^ (-1))) &&& (coTown C (nI j) C.1)) (hr) (hI)) hP hD hS hA [0, 1] (by decide) rfl (fun _ => rfl) 0 0 rfl rfl rfl rfl hl.1 rfl ⟨⟨by decide, by decide⟩, by decide, by decide⟩ (Nat.le_of_ble_eq_true rfl) dX12_letsIn_68 (fun r_68 u H locs hw hP hD hS => ?_)
        have hw := hw.symm
        subst hw
        have hP : bP Γ [bMo Γ m M, bA Γ (m 1) 259 b, bA Γ (m 6) 3 f] H := hP
        have hD : bD AA [bMo Γ m M, bA Γ (m 1) 259 b, bA Γ (m 6) 3 f] := hD
        exact fin _ _ (stWorth C Y (((ttWet C tr Y (coTown C (nI j) C.1)) &&& ((ttWet C tr Y 0) ^^^ (-1))) &&& (coTown C (nI j) C.1))) f 71 _ dX12_letsIn_71 (fun h => by cases h) ⟨(by unfold leR leOk; rw [c_9, c_19]; first | (simp only [Bool.and_self, if_true, if_pos c_52]; rfl) | (simp only [Bool.and_self, if_true, if_neg c_52]; rfl)), (by unfold moV leOk; rw [c_9, c_19]; rfl)⟩ hP hD hS
    · have c_19 : (wi w 0 1) = false := bI_0.mp c_19
      refine lv_aload_n zx zb dX12_letsIn_22 rfl (lv_at hl 0 rfl) ?_
      refine call_Vi (As := []) (rest := []) XX cv_X12_59 (c_X12_bad Γ l m M f ) hP hD hS hA [0, 2] (by decide) rfl (fun _ => rfl) 0 0 rfl rfl rfl rfl hl.1 rfl ⟨⟨by decide, by decide⟩, by decide, by decide⟩ (Nat.le_of_ble_eq_true rfl) dX12_letsIn_23 (fun r_23 u H locs hw hP hD hS => ?_)
      obtain ⟨hw1, hw2⟩ := hw
      have hw1 := hw1.symm
      have hw2 := hw2.symm
      subst hw1
      subst hw2
      have hP : bP Γ [bMo Γ m M, bA Γ (m 1) 259 b, bA Γ (m 6) 3 (moRef M f 0)] H := hP
      have hD : bD AA [bMo Γ m M, bA Γ (m 1) 259 b, bA Γ (m 6) 3 (moRef M f 0)] := hD
      exact fin _ _ (-2) (moRef M f 0) 26 _ dX12_letsIn_26 (fun h => by cases h) ⟨(by simp [leR, leOk, c_9, c_19]), (by simp [moV, leOk, c_9, c_19])⟩ hP hD hS

set_option maxHeartbeats 4000000 in
set_option maxRecDepth 100000 in
theorem c_X12_losesBy (Γ : GG) (l : Launch) (m : Nat → Nat) (M : MoV) (b : Nat → Int32) (C : CoV) (tr : Nat → TrV) (Y : YrV) (pc : Nat) (P : Nat → YrV) (i : Nat) (q : Int32) (hr : Rel b C tr Y pc P) (hI : Inv C tr Y) (hi : i < 3) : Ci Γ l yX12_losesBy cX12_losesBy 6 (some (.int)) 5 114 0 0 [.ref (m 0), .int (nI i), .int q] [bMo Γ m M, bA Γ (m 1) 259 b] (fun (r : Int32) (u : Unit) => r = lossV C tr Y i q) (fun (u : Unit) => [bMo Γ m M, bA Γ (m 1) 259 b]) := by
  refine Ci.of (Or.inl rfl) (by decide) (Nat.le_of_ble_eq_true rfl) ?_
  intro pp ee ss mm bb me cd AA QQ XX hnm hA hP hD fin ls hl
  obtain ⟨zx, zb, hml, hown, hts, hK⟩ := id XX
  have hS : va_S AA ss.heap ss.heap [] := va_S.rf
  have hl : lv_has ls 6 [(0, .ref (m 0)), (1, .int (nI i)), (2, .int q)] := hl
  have htc := inv_tc hI
  have hdc := inv_dc hI
  have hn := inv_n hI
  refine lv_aload_n zx zb dX12_losesBy_0 rfl (lv_at hl 0 rfl) ?_
  refine lv_iload_n zx zb dX12_losesBy_1 rfl (lv_at hl 1 rfl) ?_
  refine call_Vi (As := [.int (nI i)]) (rest := []) XX cv_X12_264 (c_X12_cellsOf Γ l m M b C tr Y pc P (nI i) (hr) (hI)) hP hD hS hA [0, 1] (by decide) rfl (fun _ => rfl) 0 0 rfl rfl rfl rfl hl.1 rfl ⟨⟨by decide, by decide⟩, by decide, by decide⟩ (Nat.le_of_ble_eq_true rfl) dX12_losesBy_2 (fun r_2 u H locs hw hP hD hS => ?_)
  have hw := hw.symm
  subst hw
  have hP : bP Γ [bMo Γ m M, bA Γ (m 1) 259 b] H := hP
  have hD : bD AA [bMo Γ m M, bA Γ (m 1) 259 b] := hD
  refine lv_istore_n (lv' := [(3, .int (coTown C (nI i) C.1)), (0, .ref (m 0)), (1, .int (nI i)), (2, .int q)]) zx zb dX12_losesBy_5 rfl hl (by decide) rfl (fun ls hl => ?_)
  refine lv_iconst (v := nI 0) zx zb dX12_losesBy_6 (by decide) ?_
  refine lv_istore (lv' := [(4, .int (nI 0)), (3, .int (coTown C (nI i) C.1)), (0, .ref (m 0)), (1, .int (nI i)), (2, .int q)]) zx zb dX12_losesBy_7 hl (by decide) rfl (fun ls hl => ?_)
  refine lv_iconst (v := nI 0) zx zb dX12_losesBy_9 (by decide) ?_
  refine lv_istore (lv' := [(5, .int (nI 0)), (4, .int (nI 0)), (3, .int (coTown C (nI i) C.1)), (0, .ref (m 0)), (1, .int (nI i)), (2, .int q)]) zx zb dX12_losesBy_10 hl (by decide) rfl (fun ls hl => ?_)
  have L12 : ∀ (nn : Nat) (x1 : Nat) (a : Int32), (x1 ≤ C.1) → (a = yrFeet Y (feS C i q) x1) → C.1 - x1 < nn → ∀ (H : Heap) (locs : List Loc), bP Γ [bMo Γ m M, bA Γ (m 1) 259 b] H → bD AA [bMo Γ m M, bA Γ (m 1) 259 b] → va_S AA ss.heap H locs → ∀ (ls : Array Slot), lv_has ls 6 [(0, .ref (m 0)), (1, .int (nI i)), (2, .int q), (3, .int (coTown C (nI i) C.1)), (4, .int a), (5, .int (nI x1))] → W pp l ee { frames := 5, cells := 0, slots := 0, locals := 114 } ss mm [.ref (m 0), .int (nI i), .int q].toArray bb me cd H locs 0 0 QQ (F0 mm 12 ls []) := by
    intro nn
    induction nn with
    | zero => intro x1 a hx ha hm; exact absurd hm (Nat.not_lt_zero _)
    | succ nn ih12 =>
      intro x1 a hx ha hm12 H locs hP hD hS ls hl
      refine lv_iload zx zb dX12_losesBy_12 (lv_at hl 5 rfl) ?_
      refine lv_aload_n zx zb dX12_losesBy_14 rfl (lv_at hl 0 rfl) ?_
      refine g_get (v := .ref (m 1)) XX hP 0 0 rfl rfl rfl iwX12 0 (by decide) fl_X12_7 rfl dX12_losesBy_15 ?_
      refine lv_iconst (v := nI 0) zx zb dX12_losesBy_18 (by decide) ?_
      refine g_ialdN (i := 0) XX hP 1 0 rfl rfl (by omega) (by decide) dX12_losesBy_19 ?_
      refine g_top (y := nI (C.1)) (Rel.n hr) ?_
      refine lv_icmp_ge (tgt := 68) zx zb dX12_losesBy_20 (by decide) (fun c_20 => ?_) (fun c_20 => ?_)
      · have c_20 : C.1 ≤ x1 := (nI_leI (a := C.1) (b := x1) (by omega) (by omega)).mp c_20
        refine lv_iload zx zb dX12_losesBy_68 (lv_at hl 4 rfl) ?_
        refine lv_aload_n zx zb dX12_losesBy_70 rfl (lv_at hl 0 rfl) ?_
        refine lv_aload_n zx zb dX12_losesBy_71 rfl (lv_at hl 0 rfl) ?_
        refine lv_bipush (v := nI 7) zx zb dX12_losesBy_72 (by decide) ?_
        refine lv_iload_n zx zb dX12_losesBy_74 rfl (lv_at hl 2 rfl) ?_
        refine lv_iconst (v := (-1)) zx zb dX12_losesBy_75 (by decide) ?_
        refine lv_ixor zx zb dX12_losesBy_76 ?_
        refine lv_iand zx zb dX12_losesBy_77 ?_
        refine g_top (y := 7 &&& (q ^^^ (-1))) rfl ?_
        refine call_Vi (As := [.int (7 &&& (q ^^^ (-1)))]) (rest := [.ref (m 0), .int a]) XX cv_X12_226 (c_X12_wetNow Γ l m M b C tr Y pc P (7 &&& (q ^^^ (-1))) (bareB C q 3) (hr) (hI) (lo_hb hI)) hP hD hS hA [0, 1] (by decide) rfl (fun _ => rfl) 0 0 rfl rfl rfl rfl hl.1 rfl ⟨⟨by decide, by decide⟩, by decide, by decide⟩ (Nat.le_of_ble_eq_true rfl) dX12_losesBy_78 (fun r_78 u H locs hw hP hD hS => ?_)
        have hw := hw.symm
        subst hw
        have hP : bP Γ [bMo Γ m M, bA Γ (m 1) 259 b] H := hP
        have hD : bD AA [bMo Γ m M, bA Γ (m 1) 259 b] := hD
        refine lv_iload_n zx zb dX12_losesBy_81 rfl (lv_at hl 3 rfl) ?_
        refine lv_iand zx zb dX12_losesBy_82 ?_
        refine call_Vi (As := [.int ((ttWet C tr Y (bareB C q 3)) &&& (coTown C (nI i) C.1))]) (rest := [.int a]) XX cv_X12_229 (c_X12_worthOf Γ l m M b C tr Y pc P ((ttWet C tr Y (bareB C q 3)) &&& (coTown C (nI i) C.1)) (hr) (hI)) hP hD hS hA [0, 1] (by decide) rfl (fun _ => rfl) 0 0 rfl rfl rfl rfl hl.1 rfl ⟨⟨by decide, by decide⟩, by decide, by decide⟩ (Nat.le_of_ble_eq_true rfl) dX12_losesBy_83 (fun r_83 u H locs hw hP hD hS => ?_)
        have hw := hw.symm
        subst hw
        have hP : bP Γ [bMo Γ m M, bA Γ (m 1) 259 b] H := hP
        have hD : bD AA [bMo Γ m M, bA Γ (m 1) 259 b] := hD
        refine lv_iadd zx zb dX12_losesBy_86 ?_
        exact fin _ _ (a + (stWorth C Y ((ttWet C tr Y (bareB C q 3)) &&& (coTown C (nI i) C.1)))) () 87 _ dX12_losesBy_87 (fun h => by cases h) (by have e : x1 = C.1 := (by omega); subst e; rw [ha, ← feet_8 hn]; rfl) hP hD hS
      · have c_20 : ¬ (C.1 ≤ x1) := fun h => c_20 ((nI_leI (a := C.1) (b := x1) (by omega) (by omega)).mpr h)
        refine lv_iload zx zb dX12_losesBy_23 (lv_at hl 4 rfl) ?_
        refine lv_iload_n zx zb dX12_losesBy_25 rfl (lv_at hl 3 rfl) ?_
        refine lv_iload zx zb dX12_losesBy_26 (lv_at hl 5 rfl) ?_
        refine lv_ishr zx zb dX12_losesBy_28 ?_
        refine g_top (y := (coTown C (nI i) C.1) >>> (nI x1)) (sh31r _ (by omega)) ?_
        refine lv_iconst (v := nI 1) zx zb dX12_losesBy_29 (by decide) ?_
        refine lv_iand zx zb dX12_losesBy_30 ?_
        refine g_top (y := ((coTown C (nI i) C.1) >>> (nI x1)) &&& 1) rfl ?_
        refine lv_iconst (v := nI 1) zx zb dX12_losesBy_31 (by decide) ?_
        refine lv_icmp_ne (tgt := 58) zx zb dX12_losesBy_32 (by decide) (fun c_32 => ?_) (fun c_32 => ?_)
        · have c_32 : hasB (coTown C (nI i) C.1) x1 = false := shrBf (by omega) c_32
          refine lv_iconst (v := nI 0) zx zb dX12_losesBy_58 (by decide) ?_
          refine lv_iadd zx zb dX12_losesBy_59 ?_
          refine g_top (y := a + 0) rfl ?_
          refine lv_istore (lv' := [(4, .int (a + 0)), (0, .ref (m 0)), (1, .int (nI i)), (2, .int q), (3, .int (coTown C (nI i) C.1)), (5, .int (nI x1))]) zx zb dX12_losesBy_60 hl (by decide) rfl (fun ls hl => ?_)
          refine lv_iinc (v := nI (x1 + 1)) (lv' := [(5, .int (nI (x1 + 1))), (4, .int (a + 0)), (0, .ref (m 0)), (1, .int (nI i)), (2, .int q), (3, .int (coTown C (nI i) C.1))]) zx zb dX12_losesBy_62 hl (k := 5) rfl (nI_inc _ 1) (by decide) rfl (fun ls hl => ?_)
          refine lv_goto (tgt := 12) zx zb dX12_losesBy_65 (by decide) ?_
          exact ih12 (x1 + 1) (a + 0) (by omega) (by first | exact fe_1 ha (by rw [feS_b hI hi (by omega), c_32]; rfl) | exact fe_1 ha (by rw [feS_b hI hi (by omega), c_41, Bool.and_false]) | exact fe_2 ha (by rw [feS_b hI hi (by omega), c_32, c_41]; rfl)) (by omega) _ _ hP hD hS _ (lv_sub hl [2, 3, 4, 5, 1, 0] rfl)
        · have c_32 : hasB (coTown C (nI i) C.1) x1 = true := (shrB (by omega)).mp c_32
          refine lv_iload_n zx zb dX12_losesBy_35 rfl (lv_at hl 2 rfl) ?_
          refine lv_iload_n zx zb dX12_losesBy_36 rfl (lv_at hl 1 rfl) ?_
          refine lv_ishr zx zb dX12_losesBy_37 ?_
          refine g_top (y := q >>> (nI i)) (sh31r _ (by omega)) ?_
          refine lv_iconst (v := nI 1) zx zb dX12_losesBy_38 (by decide) ?_
          refine lv_iand zx zb dX12_losesBy_39 ?_
          refine g_top (y := (q >>> (nI i)) &&& 1) rfl ?_
          refine lv_iconst (v := nI 1) zx zb dX12_losesBy_40 (by decide) ?_
          refine lv_icmp_ne (tgt := 58) zx zb dX12_losesBy_41 (by decide) (fun c_41 => ?_) (fun c_41 => ?_)
          · have c_41 : hasB q i = false := shrBf (by omega) c_41
            refine lv_iconst (v := nI 0) zx zb dX12_losesBy_58 (by decide) ?_
            refine lv_iadd zx zb dX12_losesBy_59 ?_
            refine g_top (y := a + 0) rfl ?_
            refine lv_istore (lv' := [(4, .int (a + 0)), (0, .ref (m 0)), (1, .int (nI i)), (2, .int q), (3, .int (coTown C (nI i) C.1)), (5, .int (nI x1))]) zx zb dX12_losesBy_60 hl (by decide) rfl (fun ls hl => ?_)
            refine lv_iinc (v := nI (x1 + 1)) (lv' := [(5, .int (nI (x1 + 1))), (4, .int (a + 0)), (0, .ref (m 0)), (1, .int (nI i)), (2, .int q), (3, .int (coTown C (nI i) C.1))]) zx zb dX12_losesBy_62 hl (k := 5) rfl (nI_inc _ 1) (by decide) rfl (fun ls hl => ?_)
            refine lv_goto (tgt := 12) zx zb dX12_losesBy_65 (by decide) ?_
            exact ih12 (x1 + 1) (a + 0) (by omega) (by first | exact fe_1 ha (by rw [feS_b hI hi (by omega), c_32]; rfl) | exact fe_1 ha (by rw [feS_b hI hi (by omega), c_41, Bool.and_false]) | exact fe_2 ha (by rw [feS_b hI hi (by omega), c_32, c_41]; rfl)) (by omega) _ _ hP hD hS _ (lv_sub hl [2, 3, 4, 5, 1, 0] rfl)
          · have c_41 : hasB q i = true := (shrB (by omega)).mp c_41
            refine lv_aload_n zx zb dX12_losesBy_44 rfl (lv_at hl 0 rfl) ?_
            refine g_get (v := .ref (m 1)) XX hP 0 0 rfl rfl rfl iwX12 0 (by decide) fl_X12_7 rfl dX12_losesBy_45 ?_
            refine lv_iload zx zb dX12_losesBy_48 (lv_at hl 5 rfl) ?_
            refine lv_iconst (v := nI 3) zx zb dX12_losesBy_50 (by decide) ?_
            refine callR_Si (As := [.int (nI x1), .int (nI 3)]) (rest := [.ref (m 1), .int a]) XX cs_X12_73 (c_X12_at Γ l x1 3 ) hP hD hS hA nil_mem nil_D rfl hl.1 rfl ⟨⟨by decide, by decide⟩, by decide, by decide⟩ (Nat.le_of_ble_eq_true rfl) dX12_losesBy_51 (fun r_51 H locs hw hP hS => ?_)
            have hw := hw.symm
            subst hw
            refine g_ialdN (i := 15 + 5 * x1 + 3) XX hP 1 0 rfl rfl (by omega) (by decide) dX12_losesBy_54 ?_
            refine g_top (y := Y.2.2.2.1 x1) (Rel.c3 hr (by omega)) ?_
            refine lv_goto (tgt := 59) zx zb dX12_losesBy_55 (by decide) ?_
            refine lv_iadd zx zb dX12_losesBy_59 ?_
            refine lv_istore (lv' := [(4, .int (a + (Y.2.2.2.1 x1))), (0, .ref (m 0)), (1, .int (nI i)), (2, .int q), (3, .int (coTown C (nI i) C.1)), (5, .int (nI x1))]) zx zb dX12_losesBy_60 hl (by decide) rfl (fun ls hl => ?_)
            refine lv_iinc (v := nI (x1 + 1)) (lv' := [(5, .int (nI (x1 + 1))), (4, .int (a + (Y.2.2.2.1 x1))), (0, .ref (m 0)), (1, .int (nI i)), (2, .int q), (3, .int (coTown C (nI i) C.1))]) zx zb dX12_losesBy_62 hl (k := 5) rfl (nI_inc _ 1) (by decide) rfl (fun ls hl => ?_)
            refine lv_goto (tgt := 12) zx zb dX12_losesBy_65 (by decide) ?_
            exact ih12 (x1 + 1) (a + (Y.2.2.2.1 x1)) (by omega) (by first | exact fe_1 ha (by rw [feS_b hI hi (by omega), c_32]; rfl) | exact fe_1 ha (by rw [feS_b hI hi (by omega), c_41, Bool.and_false]) | exact fe_2 ha (by rw [feS_b hI hi (by omega), c_32, c_41]; rfl)) (by omega) _ _ hP hD hS _ (lv_sub hl [2, 3, 4, 5, 1, 0] rfl)
  exact L12 _ 0 0 (by omega) (rfl) (Nat.lt_succ_self _) _ _ hP hD hS _ (lv_sub hl [3, 4, 5, 2, 1, 0] rfl)
