theorem cv_X12_102 : CWV RX12 102 RX12 yX12_no cX12_no 1 (some (.int)) 0 := ⟨cd_X12_no, im_X12_no, se_X12_X12_no_X12_no, in_X12, ml_X12_102, by decide +kernel⟩
theorem cv_X12_76 : CWV RX12 76 RX12 yX12_tells cX12_tells 4 (some (.int)) 2 := ⟨cd_X12_tells, im_X12_tells, se_X12_X12_tells_X12_tells, in_X12, ml_X12_76, by decide +kernel⟩
theorem cv_X12_89 : CWV RX12 89 RX12 yX12_full cX12_full 1 (some (.int)) 0 := ⟨cd_X12_full, im_X12_full, se_X12_X12_full_X12_full, in_X12, ml_X12_89, by decide +kernel⟩
set_option maxHeartbeats 4000000 in
set_option maxRecDepth 100000 in
theorem c_X12_tells (Γ : GG) (l : Launch) (m : Nat → Nat) (M : MoV) (b : Nat → Int32) (j : Nat) (v : Int32) (hj : j < 259) : Ci Γ l yX12_tells cX12_tells 4 (some (.int)) 0 0 0 0 [.ref (m 0), .int (nI j), .int v] [bMo Γ m M, bA Γ (m 1) 259 b] (fun (r : Int32) (u : Nat → Int32) => r = b j ∧ u = upd (upd b j v) 6 (nI 0)) (fun (u : Nat → Int32) => [bMo Γ m M, bA Γ (m 1) 259 u]) := by
  refine Ci.of (Or.inl rfl) (by decide) (Nat.le_of_ble_eq_true rfl) ?_
  intro pp ee ss mm bb me cd AA QQ XX hnm hA hP hD fin ls hl
  obtain ⟨zx, zb, hml, hown, hts, hK⟩ := id XX
  have hS : va_S AA ss.heap ss.heap [] := va_S.rf
  have hl : lv_has ls 4 [(0, .ref (m 0)), (1, .int (nI j)), (2, .int v)] := hl
  refine lv_aload_n zx zb dX12_tells_0 rfl (lv_at hl 0 rfl) ?_
  refine g_get (v := .ref (m 1)) XX hP 0 0 rfl rfl rfl iwX12 0 (by decide) fl_X12_7 rfl dX12_tells_1 ?_
  refine lv_iload_n zx zb dX12_tells_4 rfl (lv_at hl 1 rfl) ?_
  refine g_ialdN (i := j) XX hP 1 0 rfl rfl (by omega) (by decide) dX12_tells_5 ?_
  refine lv_istore_n (lv' := [(3, .int (b j)), (0, .ref (m 0)), (1, .int (nI j)), (2, .int v)]) zx zb dX12_tells_6 rfl hl (by decide) rfl (fun ls hl => ?_)
  refine lv_aload_n zx zb dX12_tells_7 rfl (lv_at hl 1 rfl) ?_
  refine g_get (v := .ref (m 1)) XX hP 0 0 rfl rfl rfl iwX12 0 (by decide) fl_X12_7 rfl dX12_tells_8 ?_
  refine lv_iload_n zx zb dX12_tells_11 rfl (lv_at hl 2 rfl) ?_
  refine lv_iload_n zx zb dX12_tells_12 rfl (lv_at hl 3 rfl) ?_
  refine g_iastN (x := v) (i := j) (blk' := bA Γ (m 1) 259 (upd b j v)) (bs' := [bMo Γ m M, bA Γ (m 1) 259 (upd b j v)]) XX hP hD hS 1 0 rfl rfl (by omega) (by decide) rfl rfl dX12_tells_13 (fun H locs hP hD hS => ?_)
  refine lv_aload_n zx zb dX12_tells_14 rfl (lv_at hl 1 rfl) ?_
  refine g_get (v := .ref (m 1)) XX hP 0 0 rfl rfl rfl iwX12 0 (by decide) fl_X12_7 rfl dX12_tells_15 ?_
  refine lv_bipush (v := nI 6) zx zb dX12_tells_18 (by decide) ?_
  refine lv_iconst (v := nI 0) zx zb dX12_tells_20 (by decide) ?_
  refine g_iastN (x := nI 0) (i := 6) (blk' := bA Γ (m 1) 259 (upd (upd b j v) 6 (nI 0))) (bs' := [bMo Γ m M, bA Γ (m 1) 259 (upd (upd b j v) 6 (nI 0))]) XX hP hD hS 1 0 rfl rfl (by omega) (by decide) rfl rfl dX12_tells_21 (fun H locs hP hD hS => ?_)
  refine lv_iload_n zx zb dX12_tells_22 rfl (lv_at hl 0 rfl) ?_
  exact fin _ _ (b j) (upd (upd b j v) 6 (nI 0)) 23 _ dX12_tells_23 (fun h => by cases h) ⟨(rfl), (rfl)⟩ hP hD hS

set_option maxHeartbeats 4000000 in
set_option maxRecDepth 100000 in
theorem c_X12_bells (Γ : GG) (l : Launch) (m : Nat → Nat) (M : MoV) (b : Nat → Int32) (C : CoV) (tr : Nat → TrV) (Y : YrV) (pc : Nat) (P : Nat → YrV) (f : Nat → Int32) (n : Int32) (hr : Rel b C tr Y pc P) (hI : Inv C tr Y) : Ci Γ l yX12_bells cX12_bells 2 (some (.int)) 2 42 0 0 [.ref (m 0), .int n] [bMo Γ m M, bA Γ (m 1) 259 b, bA Γ (m 6) 3 f] (fun (r : Int32) (u : (Nat → Int32) × (Nat → Int32)) => r = beR Y n ∧ Rel u.1 C tr (beY Y n) (okP (wi n 0 999) pc) P ∧ u.2 = moV M f (wi n 0 999)) (fun (u : (Nat → Int32) × (Nat → Int32)) => [bMo Γ m M, bA Γ (m 1) 259 u.1, bA Γ (m 6) 3 u.2]) := by
  refine Ci.of (Or.inl rfl) (by decide) (Nat.le_of_ble_eq_true rfl) ?_
  intro pp ee ss mm bb me cd AA QQ XX hnm hA hP hD fin ls hl
  obtain ⟨zx, zb, hml, hown, hts, hK⟩ := id XX
  have hS : va_S AA ss.heap ss.heap [] := va_S.rf
  have hl : lv_has ls 2 [(0, .ref (m 0)), (1, .int n)] := hl
  have htc := inv_tc hI
  have hdc := inv_dc hI
  have hn := inv_n hI
  refine lv_iload_n zx zb dX12_bells_0 rfl (lv_at hl 1 rfl) ?_
  refine lv_i2l (v := n.toInt64) zx zb dX12_bells_1 rfl ?_
  refine lv_lconst (v := (0 : Int32).toInt64) zx zb dX12_bells_2 (by decide) ?_
  refine lv_ldc2 zx zb hown (hts _ kl_X12_83) dX12_bells_3 ?_
  refine g_topl (y := (999 : Int32).toInt64) (by decide) ?_
  refine callR_Si (As := [.long n.toInt64, .long ((0 : Int32).toInt64), .long ((999 : Int32).toInt64)]) (rest := []) XX cs_X12_53 (c_X12_in Γ l n 0 999 ) hP hD hS hA nil_mem nil_D rfl hl.1 rfl ⟨⟨by decide, by decide⟩, by decide, by decide⟩ (Nat.le_of_ble_eq_true rfl) dX12_bells_6 (fun r_6 H locs hw hP hS => ?_)
  have hw := hw.symm
  subst hw
  refine lv_if_eq (tgt := 21) zx zb dX12_bells_9 (by decide) (fun c_9 => ?_) (fun c_9 => ?_)
  · have c_9 : (wi n 0 999) = false := bI_0.mp c_9
    refine lv_aload_n zx zb dX12_bells_21 rfl (lv_at hl 0 rfl) ?_
    refine call_Vi (As := []) (rest := []) XX cv_X12_59 (c_X12_bad Γ l m M f ) hP hD hS hA [0, 2] (by decide) rfl (fun _ => rfl) 0 0 rfl rfl rfl rfl hl.1 rfl ⟨⟨by decide, by decide⟩, by decide, by decide⟩ (Nat.le_of_ble_eq_true rfl) dX12_bells_22 (fun r_22 u H locs hw hP hD hS => ?_)
    obtain ⟨hw1, hw2⟩ := hw
    have hw1 := hw1.symm
    have hw2 := hw2.symm
    subst hw1
    subst hw2
    have hP : bP Γ [bMo Γ m M, bA Γ (m 1) 259 b, bA Γ (m 6) 3 (moRef M f 0)] H := hP
    have hD : bD AA [bMo Γ m M, bA Γ (m 1) 259 b, bA Γ (m 6) 3 (moRef M f 0)] := hD
    exact fin _ _ (-2) (b, (moRef M f 0)) 25 _ dX12_bells_25 (fun h => by cases h) (by first | exact bell_ok hr htc hdc c_9 | exact bell_no hr c_9) hP hD hS
  · have c_9 : (wi n 0 999) = true := bI_ne c_9
    refine lv_aload_n zx zb dX12_bells_12 rfl (lv_at hl 0 rfl) ?_
    refine lv_iconst (v := nI 2) zx zb dX12_bells_13 (by decide) ?_
    refine lv_iload_n zx zb dX12_bells_14 rfl (lv_at hl 1 rfl) ?_
    refine call_Vi (As := [.int (nI 2), .int n]) (rest := []) XX cv_X12_76 (c_X12_tells Γ l m M b 2 n (by omega)) hP hD hS hA [0, 1] (by decide) rfl (fun _ => rfl) 0 0 rfl rfl rfl rfl hl.1 rfl ⟨⟨by decide, by decide⟩, by decide, by decide⟩ (Nat.le_of_ble_eq_true rfl) dX12_bells_15 (fun r_15 u H locs hw hP hD hS => ?_)
    obtain ⟨hw1, hw2⟩ := hw
    have hw1 := hw1.symm
    have hw2 := hw2.symm
    subst hw1
    subst hw2
    have hP : bP Γ [bMo Γ m M, bA Γ (m 1) 259 (upd (upd b 2 n) 6 (nI 0)), bA Γ (m 6) 3 f] H := hP
    have hD : bD AA [bMo Γ m M, bA Γ (m 1) 259 (upd (upd b 2 n) 6 (nI 0)), bA Γ (m 6) 3 f] := hD
    refine lv_goto (tgt := 25) zx zb dX12_bells_18 (by decide) ?_
    exact fin _ _ (b 2) ((upd (upd b 2 n) 6 (nI 0)), f) 25 _ dX12_bells_25 (fun h => by cases h) (by first | exact bell_ok hr htc hdc c_9 | exact bell_no hr c_9) hP hD hS

set_option maxHeartbeats 4000000 in
set_option maxRecDepth 100000 in
theorem c_X12_moon (Γ : GG) (l : Launch) (m : Nat → Nat) (M : MoV) (b : Nat → Int32) (C : CoV) (tr : Nat → TrV) (Y : YrV) (pc : Nat) (P : Nat → YrV) (f : Nat → Int32) (n : Int32) (hr : Rel b C tr Y pc P) (hI : Inv C tr Y) : Ci Γ l yX12_moon cX12_moon 2 (some (.int)) 2 42 0 0 [.ref (m 0), .int n] [bMo Γ m M, bA Γ (m 1) 259 b, bA Γ (m 6) 3 f] (fun (r : Int32) (u : (Nat → Int32) × (Nat → Int32)) => r = tMoR C n ∧ Rel u.1 (tMo C n) tr Y (okP (wi n 1 9) pc) P ∧ u.2 = moV M f (wi n 1 9)) (fun (u : (Nat → Int32) × (Nat → Int32)) => [bMo Γ m M, bA Γ (m 1) 259 u.1, bA Γ (m 6) 3 u.2]) := by
  refine Ci.of (Or.inl rfl) (by decide) (Nat.le_of_ble_eq_true rfl) ?_
  intro pp ee ss mm bb me cd AA QQ XX hnm hA hP hD fin ls hl
  obtain ⟨zx, zb, hml, hown, hts, hK⟩ := id XX
  have hS : va_S AA ss.heap ss.heap [] := va_S.rf
  have hl : lv_has ls 2 [(0, .ref (m 0)), (1, .int n)] := hl
  have htc := inv_tc hI
  have hdc := inv_dc hI
  have hn := inv_n hI
  refine lv_iload_n zx zb dX12_moon_0 rfl (lv_at hl 1 rfl) ?_
  refine lv_i2l (v := n.toInt64) zx zb dX12_moon_1 rfl ?_
  refine lv_lconst (v := (1 : Int32).toInt64) zx zb dX12_moon_2 (by decide) ?_
  refine lv_ldc2 zx zb hown (hts _ kl_X12_67) dX12_moon_3 ?_
  refine g_topl (y := (9 : Int32).toInt64) (by decide) ?_
  refine callR_Si (As := [.long n.toInt64, .long ((1 : Int32).toInt64), .long ((9 : Int32).toInt64)]) (rest := []) XX cs_X12_53 (c_X12_in Γ l n 1 9 ) hP hD hS hA nil_mem nil_D rfl hl.1 rfl ⟨⟨by decide, by decide⟩, by decide, by decide⟩ (Nat.le_of_ble_eq_true rfl) dX12_moon_6 (fun r_6 H locs hw hP hS => ?_)
  have hw := hw.symm
  subst hw
  refine lv_if_eq (tgt := 21) zx zb dX12_moon_9 (by decide) (fun c_9 => ?_) (fun c_9 => ?_)
  · have c_9 : (wi n 1 9) = false := bI_0.mp c_9
    refine lv_aload_n zx zb dX12_moon_21 rfl (lv_at hl 0 rfl) ?_
    refine call_Vi (As := []) (rest := []) XX cv_X12_59 (c_X12_bad Γ l m M f ) hP hD hS hA [0, 2] (by decide) rfl (fun _ => rfl) 0 0 rfl rfl rfl rfl hl.1 rfl ⟨⟨by decide, by decide⟩, by decide, by decide⟩ (Nat.le_of_ble_eq_true rfl) dX12_moon_22 (fun r_22 u H locs hw hP hD hS => ?_)
    obtain ⟨hw1, hw2⟩ := hw
    have hw1 := hw1.symm
    have hw2 := hw2.symm
    subst hw1
    subst hw2
    have hP : bP Γ [bMo Γ m M, bA Γ (m 1) 259 b, bA Γ (m 6) 3 (moRef M f 0)] H := hP
    have hD : bD AA [bMo Γ m M, bA Γ (m 1) 259 b, bA Γ (m 6) 3 (moRef M f 0)] := hD
    exact fin _ _ (-2) (b, (moRef M f 0)) 25 _ dX12_moon_25 (fun h => by cases h) (by first | exact moon_ok hr htc hdc c_9 | exact moon_no hr c_9) hP hD hS
  · have c_9 : (wi n 1 9) = true := bI_ne c_9
    refine lv_aload_n zx zb dX12_moon_12 rfl (lv_at hl 0 rfl) ?_
    refine lv_iconst (v := nI 3) zx zb dX12_moon_13 (by decide) ?_
    refine lv_iload_n zx zb dX12_moon_14 rfl (lv_at hl 1 rfl) ?_
    refine call_Vi (As := [.int (nI 3), .int n]) (rest := []) XX cv_X12_76 (c_X12_tells Γ l m M b 3 n (by omega)) hP hD hS hA [0, 1] (by decide) rfl (fun _ => rfl) 0 0 rfl rfl rfl rfl hl.1 rfl ⟨⟨by decide, by decide⟩, by decide, by decide⟩ (Nat.le_of_ble_eq_true rfl) dX12_moon_15 (fun r_15 u H locs hw hP hD hS => ?_)
    obtain ⟨hw1, hw2⟩ := hw
    have hw1 := hw1.symm
    have hw2 := hw2.symm
    subst hw1
    subst hw2
    have hP : bP Γ [bMo Γ m M, bA Γ (m 1) 259 (upd (upd b 3 n) 6 (nI 0)), bA Γ (m 6) 3 f] H := hP
    have hD : bD AA [bMo Γ m M, bA Γ (m 1) 259 (upd (upd b 3 n) 6 (nI 0)), bA Γ (m 6) 3 f] := hD
    refine lv_goto (tgt := 25) zx zb dX12_moon_18 (by decide) ?_
    exact fin _ _ (b 3) ((upd (upd b 3 n) 6 (nI 0)), f) 25 _ dX12_moon_25 (fun h => by cases h) (by first | exact moon_ok hr htc hdc c_9 | exact moon_no hr c_9) hP hD hS

set_option maxHeartbeats 4000000 in
set_option maxRecDepth 100000 in
theorem c_X12_want (Γ : GG) (l : Launch) (m : Nat → Nat) (M : MoV) (b : Nat → Int32) (C : CoV) (tr : Nat → TrV) (Y : YrV) (pc : Nat) (P : Nat → YrV) (f : Nat → Int32) (a : Int32) (n : Int32) (hr : Rel b C tr Y pc P) (hI : Inv C tr Y) : Ci Γ l yX12_want cX12_want 3 (some (.int)) 2 42 0 0 [.ref (m 0), .int a, .int n] [bMo Γ m M, bA Γ (m 1) 259 b, bA Γ (m 6) 3 f] (fun (r : Int32) (u : (Nat → Int32) × (Nat → Int32)) => r = tWaR C a n ∧ Rel u.1 (tWa C a n) tr Y (okP (okWant a n) pc) P ∧ u.2 = moV M f (okWant a n)) (fun (u : (Nat → Int32) × (Nat → Int32)) => [bMo Γ m M, bA Γ (m 1) 259 u.1, bA Γ (m 6) 3 u.2]) := by
  refine Ci.of (Or.inl rfl) (by decide) (Nat.le_of_ble_eq_true rfl) ?_
  intro pp ee ss mm bb me cd AA QQ XX hnm hA hP hD fin ls hl
  obtain ⟨zx, zb, hml, hown, hts, hK⟩ := id XX
  have hS : va_S AA ss.heap ss.heap [] := va_S.rf
  have hl : lv_has ls 3 [(0, .ref (m 0)), (1, .int a), (2, .int n)] := hl
  have htc := inv_tc hI
  have hdc := inv_dc hI
  have hn := inv_n hI
  refine lv_iload_n zx zb dX12_want_0 rfl (lv_at hl 1 rfl) ?_
  refine lv_i2l (v := a.toInt64) zx zb dX12_want_1 rfl ?_
  refine lv_lconst (v := (0 : Int32).toInt64) zx zb dX12_want_2 (by decide) ?_
  refine lv_ldc2 zx zb hown (hts _ kl_X12_79) dX12_want_3 ?_
  refine g_topl (y := (7 : Int32).toInt64) (by decide) ?_
  refine callR_Si (As := [.long a.toInt64, .long ((0 : Int32).toInt64), .long ((7 : Int32).toInt64)]) (rest := []) XX cs_X12_53 (c_X12_in Γ l a 0 7 ) hP hD hS hA nil_mem nil_D rfl hl.1 rfl ⟨⟨by decide, by decide⟩, by decide, by decide⟩ (Nat.le_of_ble_eq_true rfl) dX12_want_6 (fun r_6 H locs hw hP hS => ?_)
  have hw := hw.symm
  subst hw
  refine lv_if_eq (tgt := 36) zx zb dX12_want_9 (by decide) (fun c_9 => ?_) (fun c_9 => ?_)
  · have c_9 : (wi a 0 7) = false := bI_0.mp c_9
    refine lv_aload_n zx zb dX12_want_36 rfl (lv_at hl 0 rfl) ?_
    refine call_Vi (As := []) (rest := []) XX cv_X12_59 (c_X12_bad Γ l m M f ) hP hD hS hA [0, 2] (by decide) rfl (fun _ => rfl) 0 0 rfl rfl rfl rfl hl.1 rfl ⟨⟨by decide, by decide⟩, by decide, by decide⟩ (Nat.le_of_ble_eq_true rfl) dX12_want_37 (fun r_37 u H locs hw hP hD hS => ?_)
    obtain ⟨hw1, hw2⟩ := hw
    have hw1 := hw1.symm
    have hw2 := hw2.symm
    subst hw1
    subst hw2
    have hP : bP Γ [bMo Γ m M, bA Γ (m 1) 259 b, bA Γ (m 6) 3 (moRef M f 0)] H := hP
    have hD : bD AA [bMo Γ m M, bA Γ (m 1) 259 b, bA Γ (m 6) 3 (moRef M f 0)] := hD
    exact fin _ _ (-2) (b, (moRef M f 0)) 40 _ dX12_want_40 (fun h => by cases h) (by first | exact want_no hr (Or.inl c_9) | exact want_no hr (Or.inr c_21) | exact want_ok hr htc hdc (by omega) c_9 c_21) hP hD hS
  · have c_9 : (wi a 0 7) = true := bI_ne c_9
    refine lv_iload_n zx zb dX12_want_12 rfl (lv_at hl 2 rfl) ?_
    refine lv_i2l (v := n.toInt64) zx zb dX12_want_13 rfl ?_
    refine lv_lconst (v := (0 : Int32).toInt64) zx zb dX12_want_14 (by decide) ?_
    refine lv_ldc2 zx zb hown (hts _ kl_X12_81) dX12_want_15 ?_
    refine g_topl (y := (15 : Int32).toInt64) (by decide) ?_
    refine callR_Si (As := [.long n.toInt64, .long ((0 : Int32).toInt64), .long ((15 : Int32).toInt64)]) (rest := []) XX cs_X12_53 (c_X12_in Γ l n 0 15 ) hP hD hS hA nil_mem nil_D rfl hl.1 rfl ⟨⟨by decide, by decide⟩, by decide, by decide⟩ (Nat.le_of_ble_eq_true rfl) dX12_want_18 (fun r_18 H locs hw hP hS => ?_)
    have hw := hw.symm
    subst hw
    refine lv_if_eq (tgt := 36) zx zb dX12_want_21 (by decide) (fun c_21 => ?_) (fun c_21 => ?_)
    · have c_21 : (wi n 0 15) = false := bI_0.mp c_21
      refine lv_aload_n zx zb dX12_want_36 rfl (lv_at hl 0 rfl) ?_
      refine call_Vi (As := []) (rest := []) XX cv_X12_59 (c_X12_bad Γ l m M f ) hP hD hS hA [0, 2] (by decide) rfl (fun _ => rfl) 0 0 rfl rfl rfl rfl hl.1 rfl ⟨⟨by decide, by decide⟩, by decide, by decide⟩ (Nat.le_of_ble_eq_true rfl) dX12_want_37 (fun r_37 u H locs hw hP hD hS => ?_)
      obtain ⟨hw1, hw2⟩ := hw
      have hw1 := hw1.symm
      have hw2 := hw2.symm
      subst hw1
      subst hw2
      have hP : bP Γ [bMo Γ m M, bA Γ (m 1) 259 b, bA Γ (m 6) 3 (moRef M f 0)] H := hP
      have hD : bD AA [bMo Γ m M, bA Γ (m 1) 259 b, bA Γ (m 6) 3 (moRef M f 0)] := hD
      exact fin _ _ (-2) (b, (moRef M f 0)) 40 _ dX12_want_40 (fun h => by cases h) (by first | exact want_no hr (Or.inl c_9) | exact want_no hr (Or.inr c_21) | exact want_ok hr htc hdc (by omega) c_9 c_21) hP hD hS
    · have c_21 : (wi n 0 15) = true := bI_ne c_21
      obtain ⟨j, hj, rfl⟩ := wi_nat 0 7 c_9 rfl rfl (by decide)
      refine lv_aload_n zx zb dX12_want_24 rfl (lv_at hl 0 rfl) ?_
      refine lv_bipush (v := nI 7) zx zb dX12_want_25 (by decide) ?_
      refine lv_iload_n zx zb dX12_want_27 rfl (lv_at hl 1 rfl) ?_
      refine lv_iadd zx zb dX12_want_28 ?_
      refine g_top (y := nI (7 + j)) (nI_add 7 j) ?_
      refine lv_iload_n zx zb dX12_want_29 rfl (lv_at hl 2 rfl) ?_
      refine call_Vi (As := [.int (nI (7 + j)), .int n]) (rest := []) XX cv_X12_76 (c_X12_tells Γ l m M b (7 + j) n (by omega)) hP hD hS hA [0, 1] (by decide) rfl (fun _ => rfl) 0 0 rfl rfl rfl rfl hl.1 rfl ⟨⟨by decide, by decide⟩, by decide, by decide⟩ (Nat.le_of_ble_eq_true rfl) dX12_want_30 (fun r_30 u H locs hw hP hD hS => ?_)
      obtain ⟨hw1, hw2⟩ := hw
      have hw1 := hw1.symm
      have hw2 := hw2.symm
      subst hw1
      subst hw2
      have hP : bP Γ [bMo Γ m M, bA Γ (m 1) 259 (upd (upd b (7 + j) n) 6 (nI 0)), bA Γ (m 6) 3 f] H := hP
      have hD : bD AA [bMo Γ m M, bA Γ (m 1) 259 (upd (upd b (7 + j) n) 6 (nI 0)), bA Γ (m 6) 3 f] := hD
      refine lv_goto (tgt := 40) zx zb dX12_want_33 (by decide) ?_
      exact fin _ _ (b (7 + j)) ((upd (upd b (7 + j) n) 6 (nI 0)), f) 40 _ dX12_want_40 (fun h => by cases h) (by first | exact want_no hr (Or.inl c_9) | exact want_no hr (Or.inr c_21) | exact want_ok hr htc hdc (by omega) c_9 c_21) hP hD hS

set_option maxHeartbeats 4000000 in
set_option maxRecDepth 100000 in
theorem c_X12_dike (Γ : GG) (l : Launch) (m : Nat → Nat) (M : MoV) (b : Nat → Int32) (C : CoV) (tr : Nat → TrV) (Y : YrV) (pc : Nat) (P : Nat → YrV) (f : Nat → Int32) (a : Int32) (n : Int32) (hr : Rel b C tr Y pc P) (hI : Inv C tr Y) : Ci Γ l yX12_dike cX12_dike 3 (some (.int)) 2 46 0 0 [.ref (m 0), .int a, .int n] [bMo Γ m M, bA Γ (m 1) 259 b, bA Γ (m 6) 3 f] (fun (r : Int32) (u : (Nat → Int32) × (Nat → Int32)) => r = tDiR C Y a n ∧ Rel u.1 C tr (tDi C Y a n) (okP (okDike C a n) pc) P ∧ u.2 = moV M f (okDike C a n)) (fun (u : (Nat → Int32) × (Nat → Int32)) => [bMo Γ m M, bA Γ (m 1) 259 u.1, bA Γ (m 6) 3 u.2]) := by
  refine Ci.of (Or.inl rfl) (by decide) (Nat.le_of_ble_eq_true rfl) ?_
  intro pp ee ss mm bb me cd AA QQ XX hnm hA hP hD fin ls hl
  obtain ⟨zx, zb, hml, hown, hts, hK⟩ := id XX
  have hS : va_S AA ss.heap ss.heap [] := va_S.rf
  have hl : lv_has ls 3 [(0, .ref (m 0)), (1, .int a), (2, .int n)] := hl
  have htc := inv_tc hI
  have hdc := inv_dc hI
  have hn := inv_n hI
  refine lv_aload_n zx zb dX12_dike_0 rfl (lv_at hl 0 rfl) ?_
  refine lv_iload_n zx zb dX12_dike_1 rfl (lv_at hl 1 rfl) ?_
  refine call_Vi (As := [.int a]) (rest := []) XX cv_X12_63 (c_X12_isCell Γ l m M b C tr Y pc P a (hr)) hP hD hS hA [0, 1] (by decide) rfl (fun _ => rfl) 0 0 rfl rfl rfl rfl hl.1 rfl ⟨⟨by decide, by decide⟩, by decide, by decide⟩ (Nat.le_of_ble_eq_true rfl) dX12_dike_2 (fun r_2 u H locs hw hP hD hS => ?_)
  have hw := hw.symm
  subst hw
  have hP : bP Γ [bMo Γ m M, bA Γ (m 1) 259 b, bA Γ (m 6) 3 f] H := hP
  have hD : bD AA [bMo Γ m M, bA Γ (m 1) 259 b, bA Γ (m 6) 3 f] := hD
  refine lv_if_eq (tgt := 33) zx zb dX12_dike_5 (by decide) (fun c_5 => ?_) (fun c_5 => ?_)
  · have c_5 : (stCell C a) = false := bI_0.mp c_5
    refine lv_aload_n zx zb dX12_dike_33 rfl (lv_at hl 0 rfl) ?_
    refine call_Vi (As := []) (rest := []) XX cv_X12_59 (c_X12_bad Γ l m M f ) hP hD hS hA [0, 2] (by decide) rfl (fun _ => rfl) 0 0 rfl rfl rfl rfl hl.1 rfl ⟨⟨by decide, by decide⟩, by decide, by decide⟩ (Nat.le_of_ble_eq_true rfl) dX12_dike_34 (fun r_34 u H locs hw hP hD hS => ?_)
    obtain ⟨hw1, hw2⟩ := hw
    have hw1 := hw1.symm
    have hw2 := hw2.symm
    subst hw1
    subst hw2
    have hP : bP Γ [bMo Γ m M, bA Γ (m 1) 259 b, bA Γ (m 6) 3 (moRef M f 0)] H := hP
    have hD : bD AA [bMo Γ m M, bA Γ (m 1) 259 b, bA Γ (m 6) 3 (moRef M f 0)] := hD
    exact fin _ _ (-2) (b, (moRef M f 0)) 37 _ dX12_dike_37 (fun h => by cases h) (by first | exact dike_no hr (Or.inl c_5) | exact dike_no hr (Or.inr c_17) | exact dike_ok hr htc hdc (by omega) c_5 c_17) hP hD hS
  · have c_5 : (stCell C a) = true := bI_ne c_5
    refine lv_iload_n zx zb dX12_dike_8 rfl (lv_at hl 2 rfl) ?_
    refine lv_i2l (v := n.toInt64) zx zb dX12_dike_9 rfl ?_
    refine lv_lconst (v := (0 : Int32).toInt64) zx zb dX12_dike_10 (by decide) ?_
    refine lv_ldc2 zx zb hown (hts _ kl_X12_67) dX12_dike_11 ?_
    refine g_topl (y := (9 : Int32).toInt64) (by decide) ?_
    refine callR_Si (As := [.long n.toInt64, .long ((0 : Int32).toInt64), .long ((9 : Int32).toInt64)]) (rest := []) XX cs_X12_53 (c_X12_in Γ l n 0 9 ) hP hD hS hA nil_mem nil_D rfl hl.1 rfl ⟨⟨by decide, by decide⟩, by decide, by decide⟩ (Nat.le_of_ble_eq_true rfl) dX12_dike_14 (fun r_14 H locs hw hP hS => ?_)
    have hw := hw.symm
    subst hw
    refine lv_if_eq (tgt := 33) zx zb dX12_dike_17 (by decide) (fun c_17 => ?_) (fun c_17 => ?_)
    · have c_17 : (wi n 0 9) = false := bI_0.mp c_17
      refine lv_aload_n zx zb dX12_dike_33 rfl (lv_at hl 0 rfl) ?_
      refine call_Vi (As := []) (rest := []) XX cv_X12_59 (c_X12_bad Γ l m M f ) hP hD hS hA [0, 2] (by decide) rfl (fun _ => rfl) 0 0 rfl rfl rfl rfl hl.1 rfl ⟨⟨by decide, by decide⟩, by decide, by decide⟩ (Nat.le_of_ble_eq_true rfl) dX12_dike_34 (fun r_34 u H locs hw hP hD hS => ?_)
      obtain ⟨hw1, hw2⟩ := hw
      have hw1 := hw1.symm
      have hw2 := hw2.symm
      subst hw1
      subst hw2
      have hP : bP Γ [bMo Γ m M, bA Γ (m 1) 259 b, bA Γ (m 6) 3 (moRef M f 0)] H := hP
      have hD : bD AA [bMo Γ m M, bA Γ (m 1) 259 b, bA Γ (m 6) 3 (moRef M f 0)] := hD
      exact fin _ _ (-2) (b, (moRef M f 0)) 37 _ dX12_dike_37 (fun h => by cases h) (by first | exact dike_no hr (Or.inl c_5) | exact dike_no hr (Or.inr c_17) | exact dike_ok hr htc hdc (by omega) c_5 c_17) hP hD hS
    · have c_17 : (wi n 0 9) = true := bI_ne c_17
      obtain ⟨j, hj, rfl⟩ := cell_nat c_5 hn
      refine lv_aload_n zx zb dX12_dike_20 rfl (lv_at hl 0 rfl) ?_
      refine lv_iload_n zx zb dX12_dike_21 rfl (lv_at hl 1 rfl) ?_
      refine lv_iconst (v := nI 3) zx zb dX12_dike_22 (by decide) ?_
      refine callR_Si (As := [.int (nI j), .int (nI 3)]) (rest := [.ref (m 0)]) XX cs_X12_73 (c_X12_at Γ l j 3 ) hP hD hS hA nil_mem nil_D rfl hl.1 rfl ⟨⟨by decide, by decide⟩, by decide, by decide⟩ (Nat.le_of_ble_eq_true rfl) dX12_dike_23 (fun r_23 H locs hw hP hS => ?_)
      have hw := hw.symm
      subst hw
      refine lv_iload_n zx zb dX12_dike_26 rfl (lv_at hl 2 rfl) ?_
      refine call_Vi (As := [.int (nI (15 + 5 * j + 3)), .int n]) (rest := []) XX cv_X12_76 (c_X12_tells Γ l m M b (15 + 5 * j + 3) n (by omega)) hP hD hS hA [0, 1] (by decide) rfl (fun _ => rfl) 0 0 rfl rfl rfl rfl hl.1 rfl ⟨⟨by decide, by decide⟩, by decide, by decide⟩ (Nat.le_of_ble_eq_true rfl) dX12_dike_27 (fun r_27 u H locs hw hP hD hS => ?_)
      obtain ⟨hw1, hw2⟩ := hw
      have hw1 := hw1.symm
      have hw2 := hw2.symm
      subst hw1
      subst hw2
      have hP : bP Γ [bMo Γ m M, bA Γ (m 1) 259 (upd (upd b (15 + 5 * j + 3) n) 6 (nI 0)), bA Γ (m 6) 3 f] H := hP
      have hD : bD AA [bMo Γ m M, bA Γ (m 1) 259 (upd (upd b (15 + 5 * j + 3) n) 6 (nI 0)), bA Γ (m 6) 3 f] := hD
      refine lv_goto (tgt := 37) zx zb dX12_dike_30 (by decide) ?_
      exact fin _ _ (b (15 + 5 * j + 3)) ((upd (upd b (15 + 5 * j + 3) n) 6 (nI 0)), f) 37 _ dX12_dike_37 (fun h => by cases h) (by first | exact dike_no hr (Or.inl c_5) | exact dike_no hr (Or.inr c_17) | exact dike_ok hr htc hdc (by omega) c_5 c_17) hP hD hS

set_option maxHeartbeats 4000000 in
set_option maxRecDepth 100000 in
theorem c_X12_cell (Γ : GG) (l : Launch) (m : Nat → Nat) (M : MoV) (b : Nat → Int32) (C : CoV) (tr : Nat → TrV) (Y : YrV) (pc : Nat) (P : Nat → YrV) (f : Nat → Int32) (a : Int32) (h : Int32) (w : Int32) (q : Int32) (hr : Rel b C tr Y pc P) (hI : Inv C tr Y) : Ci Γ l yX12_cell cX12_cell 5 (some (.int)) 2 46 0 0 [.ref (m 0), .int a, .int h, .int w, .int q] [bMo Γ m M, bA Γ (m 1) 259 b, bA Γ (m 6) 3 f] (fun (r : Int32) (u : (Nat → Int32) × (Nat → Int32)) => r = tCeR C a h w q ∧ Rel u.1 (tCe C Y a h w q).1 tr (tCe C Y a h w q).2 (okP (okCell C a h w q) pc) P ∧ u.2 = moV M f (okCell C a h w q)) (fun (u : (Nat → Int32) × (Nat → Int32)) => [bMo Γ m M, bA Γ (m 1) 259 u.1, bA Γ (m 6) 3 u.2]) := by
  refine Ci.of (Or.inl rfl) (by decide) (Nat.le_of_ble_eq_true rfl) ?_
  intro pp ee ss mm bb me cd AA QQ XX hnm hA hP hD fin ls hl
  obtain ⟨zx, zb, hml, hown, hts, hK⟩ := id XX
  have hS : va_S AA ss.heap ss.heap [] := va_S.rf
  have hl : lv_has ls 5 [(0, .ref (m 0)), (1, .int a), (2, .int h), (3, .int w), (4, .int q)] := hl
  have htc := inv_tc hI
  have hdc := inv_dc hI
  have hn := inv_n hI
  refine lv_aload_n zx zb dX12_cell_0 rfl (lv_at hl 0 rfl) ?_
  refine lv_iload_n zx zb dX12_cell_1 rfl (lv_at hl 1 rfl) ?_
  refine call_Vi (As := [.int a]) (rest := []) XX cv_X12_63 (c_X12_isCell Γ l m M b C tr Y pc P a (hr)) hP hD hS hA [0, 1] (by decide) rfl (fun _ => rfl) 0 0 rfl rfl rfl rfl hl.1 rfl ⟨⟨by decide, by decide⟩, by decide, by decide⟩ (Nat.le_of_ble_eq_true rfl) dX12_cell_2 (fun r_2 u H locs hw hP hD hS => ?_)
  have hw := hw.symm
  subst hw
  have hP : bP Γ [bMo Γ m M, bA Γ (m 1) 259 b, bA Γ (m 6) 3 f] H := hP
  have hD : bD AA [bMo Γ m M, bA Γ (m 1) 259 b, bA Γ (m 6) 3 f] := hD
  refine lv_if_eq (tgt := 45) zx zb dX12_cell_5 (by decide) (fun c_5 => ?_) (fun c_5 => ?_)
  · have c_5 : (stCell C a) = false := bI_0.mp c_5
    refine lv_aload_n zx zb dX12_cell_45 rfl (lv_at hl 0 rfl) ?_
    refine call_Vi (As := []) (rest := []) XX cv_X12_59 (c_X12_bad Γ l m M f ) hP hD hS hA [0, 2] (by decide) rfl (fun _ => rfl) 0 0 rfl rfl rfl rfl hl.1 rfl ⟨⟨by decide, by decide⟩, by decide, by decide⟩ (Nat.le_of_ble_eq_true rfl) dX12_cell_46 (fun r_46 u H locs hw hP hD hS => ?_)
    obtain ⟨hw1, hw2⟩ := hw
    have hw1 := hw1.symm
    have hw2 := hw2.symm
    subst hw1
    subst hw2
    have hP : bP Γ [bMo Γ m M, bA Γ (m 1) 259 b, bA Γ (m 6) 3 (moRef M f 0)] H := hP
    have hD : bD AA [bMo Γ m M, bA Γ (m 1) 259 b, bA Γ (m 6) 3 (moRef M f 0)] := hD
    exact fin _ _ (-2) (b, (moRef M f 0)) 49 _ dX12_cell_49 (fun h => by cases h) (by first | exact cell_no hr (okc_1 c_5) | exact cell_no hr (okc_2 c_17) | exact cell_no hr (okc_3 c_29) | exact cell_no hr (okc_4 c_42)) hP hD hS
  · have c_5 : (stCell C a) = true := bI_ne c_5
    refine lv_iload_n zx zb dX12_cell_8 rfl (lv_at hl 2 rfl) ?_
    refine lv_i2l (v := h.toInt64) zx zb dX12_cell_9 rfl ?_
    refine lv_lconst (v := (0 : Int32).toInt64) zx zb dX12_cell_10 (by decide) ?_
    refine lv_ldc2 zx zb hown (hts _ kl_X12_67) dX12_cell_11 ?_
    refine g_topl (y := (9 : Int32).toInt64) (by decide) ?_
    refine callR_Si (As := [.long h.toInt64, .long ((0 : Int32).toInt64), .long ((9 : Int32).toInt64)]) (rest := []) XX cs_X12_53 (c_X12_in Γ l h 0 9 ) hP hD hS hA nil_mem nil_D rfl hl.1 rfl ⟨⟨by decide, by decide⟩, by decide, by decide⟩ (Nat.le_of_ble_eq_true rfl) dX12_cell_14 (fun r_14 H locs hw hP hS => ?_)
    have hw := hw.symm
    subst hw
    refine lv_if_eq (tgt := 45) zx zb dX12_cell_17 (by decide) (fun c_17 => ?_) (fun c_17 => ?_)
    · have c_17 : (wi h 0 9) = false := bI_0.mp c_17
      refine lv_aload_n zx zb dX12_cell_45 rfl (lv_at hl 0 rfl) ?_
      refine call_Vi (As := []) (rest := []) XX cv_X12_59 (c_X12_bad Γ l m M f ) hP hD hS hA [0, 2] (by decide) rfl (fun _ => rfl) 0 0 rfl rfl rfl rfl hl.1 rfl ⟨⟨by decide, by decide⟩, by decide, by decide⟩ (Nat.le_of_ble_eq_true rfl) dX12_cell_46 (fun r_46 u H locs hw hP hD hS => ?_)
      obtain ⟨hw1, hw2⟩ := hw
      have hw1 := hw1.symm
      have hw2 := hw2.symm
      subst hw1
      subst hw2
      have hP : bP Γ [bMo Γ m M, bA Γ (m 1) 259 b, bA Γ (m 6) 3 (moRef M f 0)] H := hP
      have hD : bD AA [bMo Γ m M, bA Γ (m 1) 259 b, bA Γ (m 6) 3 (moRef M f 0)] := hD
      exact fin _ _ (-2) (b, (moRef M f 0)) 49 _ dX12_cell_49 (fun h => by cases h) (by first | exact cell_no hr (okc_1 c_5) | exact cell_no hr (okc_2 c_17) | exact cell_no hr (okc_3 c_29) | exact cell_no hr (okc_4 c_42)) hP hD hS
    · have c_17 : (wi h 0 9) = true := bI_ne c_17
      refine lv_iload_n zx zb dX12_cell_20 rfl (lv_at hl 3 rfl) ?_
      refine lv_i2l (v := w.toInt64) zx zb dX12_cell_21 rfl ?_
      refine lv_lconst (v := (0 : Int32).toInt64) zx zb dX12_cell_22 (by decide) ?_
      refine lv_ldc2 zx zb hown (hts _ kl_X12_69) dX12_cell_23 ?_
      refine g_topl (y := (99 : Int32).toInt64) (by decide) ?_
      refine callR_Si (As := [.long w.toInt64, .long ((0 : Int32).toInt64), .long ((99 : Int32).toInt64)]) (rest := []) XX cs_X12_53 (c_X12_in Γ l w 0 99 ) hP hD hS hA nil_mem nil_D rfl hl.1 rfl ⟨⟨by decide, by decide⟩, by decide, by decide⟩ (Nat.le_of_ble_eq_true rfl) dX12_cell_26 (fun r_26 H locs hw hP hS => ?_)
      have hw := hw.symm
      subst hw
      refine lv_if_eq (tgt := 45) zx zb dX12_cell_29 (by decide) (fun c_29 => ?_) (fun c_29 => ?_)
      · have c_29 : (wi w 0 99) = false := bI_0.mp c_29
        refine lv_aload_n zx zb dX12_cell_45 rfl (lv_at hl 0 rfl) ?_
        refine call_Vi (As := []) (rest := []) XX cv_X12_59 (c_X12_bad Γ l m M f ) hP hD hS hA [0, 2] (by decide) rfl (fun _ => rfl) 0 0 rfl rfl rfl rfl hl.1 rfl ⟨⟨by decide, by decide⟩, by decide, by decide⟩ (Nat.le_of_ble_eq_true rfl) dX12_cell_46 (fun r_46 u H locs hw hP hD hS => ?_)
        obtain ⟨hw1, hw2⟩ := hw
        have hw1 := hw1.symm
        have hw2 := hw2.symm
        subst hw1
        subst hw2
        have hP : bP Γ [bMo Γ m M, bA Γ (m 1) 259 b, bA Γ (m 6) 3 (moRef M f 0)] H := hP
        have hD : bD AA [bMo Γ m M, bA Γ (m 1) 259 b, bA Γ (m 6) 3 (moRef M f 0)] := hD
        exact fin _ _ (-2) (b, (moRef M f 0)) 49 _ dX12_cell_49 (fun h => by cases h) (by first | exact cell_no hr (okc_1 c_5) | exact cell_no hr (okc_2 c_17) | exact cell_no hr (okc_3 c_29) | exact cell_no hr (okc_4 c_42)) hP hD hS
      · have c_29 : (wi w 0 99) = true := bI_ne c_29
        refine lv_iload zx zb dX12_cell_32 (lv_at hl 4 rfl) ?_
        refine lv_i2l (v := q.toInt64) zx zb dX12_cell_34 rfl ?_
        refine lv_lconst (v := (0 : Int32).toInt64) zx zb dX12_cell_35 (by decide) ?_
        refine lv_ldc2 zx zb hown (hts _ kl_X12_71) dX12_cell_36 ?_
        refine g_topl (y := (2 : Int32).toInt64) (by decide) ?_
        refine callR_Si (As := [.long q.toInt64, .long ((0 : Int32).toInt64), .long ((2 : Int32).toInt64)]) (rest := []) XX cs_X12_53 (c_X12_in Γ l q 0 2 ) hP hD hS hA nil_mem nil_D rfl hl.1 rfl ⟨⟨by decide, by decide⟩, by decide, by decide⟩ (Nat.le_of_ble_eq_true rfl) dX12_cell_39 (fun r_39 H locs hw hP hS => ?_)
        have hw := hw.symm
        subst hw
        refine lv_if_ne (tgt := 50) zx zb dX12_cell_42 (by decide) (fun c_42 => ?_) (fun c_42 => ?_)
        · have c_42 : (wi q 0 2) = true := bI_ne c_42
          obtain ⟨j, hj, rfl⟩ := cell_nat c_5 hn
          refine lv_aload_n zx zb dX12_cell_50 rfl (lv_at hl 0 rfl) ?_
          refine g_get (v := .ref (m 1)) XX hP 0 0 rfl rfl rfl iwX12 0 (by decide) fl_X12_7 rfl dX12_cell_51 ?_
          refine lv_iload_n zx zb dX12_cell_54 rfl (lv_at hl 1 rfl) ?_
          refine lv_iconst (v := nI 1) zx zb dX12_cell_55 (by decide) ?_
          refine callR_Si (As := [.int (nI j), .int (nI 1)]) (rest := [.ref (m 1)]) XX cs_X12_73 (c_X12_at Γ l j 1 ) hP hD hS hA nil_mem nil_D rfl hl.1 rfl ⟨⟨by decide, by decide⟩, by decide, by decide⟩ (Nat.le_of_ble_eq_true rfl) dX12_cell_56 (fun r_56 H locs hw hP hS => ?_)
          have hw := hw.symm
          subst hw
          refine lv_iload_n zx zb dX12_cell_59 rfl (lv_at hl 3 rfl) ?_
          refine g_iastN (x := w) (i := 15 + 5 * j + 1) (blk' := bA Γ (m 1) 259 (upd b (15 + 5 * j + 1) w)) (bs' := [bMo Γ m M, bA Γ (m 1) 259 (upd b (15 + 5 * j + 1) w), bA Γ (m 6) 3 f]) XX hP hD hS 1 0 rfl rfl (by omega) (by decide) rfl rfl dX12_cell_60 (fun H locs hP hD hS => ?_)
          refine lv_aload_n zx zb dX12_cell_61 rfl (lv_at hl 0 rfl) ?_
          refine g_get (v := .ref (m 1)) XX hP 0 0 rfl rfl rfl iwX12 0 (by decide) fl_X12_7 rfl dX12_cell_62 ?_
          refine lv_iload_n zx zb dX12_cell_65 rfl (lv_at hl 1 rfl) ?_
          refine lv_iconst (v := nI 2) zx zb dX12_cell_66 (by decide) ?_
          refine callR_Si (As := [.int (nI j), .int (nI 2)]) (rest := [.ref (m 1)]) XX cs_X12_73 (c_X12_at Γ l j 2 ) hP hD hS hA nil_mem nil_D rfl hl.1 rfl ⟨⟨by decide, by decide⟩, by decide, by decide⟩ (Nat.le_of_ble_eq_true rfl) dX12_cell_67 (fun r_67 H locs hw hP hS => ?_)
          have hw := hw.symm
          subst hw
          refine lv_iload zx zb dX12_cell_70 (lv_at hl 4 rfl) ?_
          refine g_iastN (x := q) (i := 15 + 5 * j + 2) (blk' := bA Γ (m 1) 259 (upd (upd b (15 + 5 * j + 1) w) (15 + 5 * j + 2) q)) (bs' := [bMo Γ m M, bA Γ (m 1) 259 (upd (upd b (15 + 5 * j + 1) w) (15 + 5 * j + 2) q), bA Γ (m 6) 3 f]) XX hP hD hS 1 0 rfl rfl (by omega) (by decide) rfl rfl dX12_cell_72 (fun H locs hP hD hS => ?_)
          refine lv_aload_n zx zb dX12_cell_73 rfl (lv_at hl 0 rfl) ?_
          refine g_get (v := .ref (m 1)) XX hP 0 0 rfl rfl rfl iwX12 0 (by decide) fl_X12_7 rfl dX12_cell_74 ?_
          refine lv_iload_n zx zb dX12_cell_77 rfl (lv_at hl 1 rfl) ?_
          refine lv_iconst (v := nI 4) zx zb dX12_cell_78 (by decide) ?_
          refine callR_Si (As := [.int (nI j), .int (nI 4)]) (rest := [.ref (m 1)]) XX cs_X12_73 (c_X12_at Γ l j 4 ) hP hD hS hA nil_mem nil_D rfl hl.1 rfl ⟨⟨by decide, by decide⟩, by decide, by decide⟩ (Nat.le_of_ble_eq_true rfl) dX12_cell_79 (fun r_79 H locs hw hP hS => ?_)
          have hw := hw.symm
          subst hw
          refine lv_iconst (v := nI 0) zx zb dX12_cell_82 (by decide) ?_
          refine g_iastN (x := nI 0) (i := 15 + 5 * j + 4) (blk' := bA Γ (m 1) 259 (upd (upd (upd b (15 + 5 * j + 1) w) (15 + 5 * j + 2) q) (15 + 5 * j + 4) (nI 0))) (bs' := [bMo Γ m M, bA Γ (m 1) 259 (upd (upd (upd b (15 + 5 * j + 1) w) (15 + 5 * j + 2) q) (15 + 5 * j + 4) (nI 0)), bA Γ (m 6) 3 f]) XX hP hD hS 1 0 rfl rfl (by omega) (by decide) rfl rfl dX12_cell_83 (fun H locs hP hD hS => ?_)
          refine lv_aload_n zx zb dX12_cell_84 rfl (lv_at hl 0 rfl) ?_
          refine lv_iload_n zx zb dX12_cell_85 rfl (lv_at hl 1 rfl) ?_
          refine lv_iconst (v := nI 0) zx zb dX12_cell_86 (by decide) ?_
          refine callR_Si (As := [.int (nI j), .int (nI 0)]) (rest := [.ref (m 0)]) XX cs_X12_73 (c_X12_at Γ l j 0 ) hP hD hS hA nil_mem nil_D rfl hl.1 rfl ⟨⟨by decide, by decide⟩, by decide, by decide⟩ (Nat.le_of_ble_eq_true rfl) dX12_cell_87 (fun r_87 H locs hw hP hS => ?_)
          have hw := hw.symm
          subst hw
          refine lv_iload_n zx zb dX12_cell_90 rfl (lv_at hl 2 rfl) ?_
          refine call_Vi (As := [.int (nI (15 + 5 * j + 0)), .int h]) (rest := []) XX cv_X12_76 (c_X12_tells Γ l m M (upd (upd (upd b (15 + 5 * j + 1) w) (15 + 5 * j + 2) q) (15 + 5 * j + 4) (nI 0)) (15 + 5 * j + 0) h (by omega)) hP hD hS hA [0, 1] (by decide) rfl (fun _ => rfl) 0 0 rfl rfl rfl rfl hl.1 rfl ⟨⟨by decide, by decide⟩, by decide, by decide⟩ (Nat.le_of_ble_eq_true rfl) dX12_cell_91 (fun r_91 u H locs hw hP hD hS => ?_)
          obtain ⟨hw1, hw2⟩ := hw
          have hw1 := hw1.symm
          have hw2 := hw2.symm
          subst hw1
          subst hw2
          have hP : bP Γ [bMo Γ m M, bA Γ (m 1) 259 (upd (upd (upd (upd (upd b (15 + 5 * j + 1) w) (15 + 5 * j + 2) q) (15 + 5 * j + 4) (nI 0)) (15 + 5 * j + 0) h) 6 (nI 0)), bA Γ (m 6) 3 f] H := hP
          have hD : bD AA [bMo Γ m M, bA Γ (m 1) 259 (upd (upd (upd (upd (upd b (15 + 5 * j + 1) w) (15 + 5 * j + 2) q) (15 + 5 * j + 4) (nI 0)) (15 + 5 * j + 0) h) 6 (nI 0)), bA Γ (m 6) 3 f] := hD
          exact fin _ _ ((upd (upd (upd b (15 + 5 * j + 1) w) (15 + 5 * j + 2) q) (15 + 5 * j + 4) (nI 0)) (15 + 5 * j + 0)) ((upd (upd (upd (upd (upd b (15 + 5 * j + 1) w) (15 + 5 * j + 2) q) (15 + 5 * j + 4) (nI 0)) (15 + 5 * j + 0) h) 6 (nI 0)), f) 94 _ dX12_cell_94 (fun h => by cases h) (cell_ok hr htc hdc (by omega) c_5 c_17 c_29 c_42) hP hD hS
        · have c_42 : (wi q 0 2) = false := bI_0.mp c_42
          refine lv_aload_n zx zb dX12_cell_45 rfl (lv_at hl 0 rfl) ?_
          refine call_Vi (As := []) (rest := []) XX cv_X12_59 (c_X12_bad Γ l m M f ) hP hD hS hA [0, 2] (by decide) rfl (fun _ => rfl) 0 0 rfl rfl rfl rfl hl.1 rfl ⟨⟨by decide, by decide⟩, by decide, by decide⟩ (Nat.le_of_ble_eq_true rfl) dX12_cell_46 (fun r_46 u H locs hw hP hD hS => ?_)
          obtain ⟨hw1, hw2⟩ := hw
          have hw1 := hw1.symm
          have hw2 := hw2.symm
          subst hw1
          subst hw2
          have hP : bP Γ [bMo Γ m M, bA Γ (m 1) 259 b, bA Γ (m 6) 3 (moRef M f 0)] H := hP
          have hD : bD AA [bMo Γ m M, bA Γ (m 1) 259 b, bA Γ (m 6) 3 (moRef M f 0)] := hD
          exact fin _ _ (-2) (b, (moRef M f 0)) 49 _ dX12_cell_49 (fun h => by cases h) (by first | exact cell_no hr (okc_1 c_5) | exact cell_no hr (okc_2 c_17) | exact cell_no hr (okc_3 c_29) | exact cell_no hr (okc_4 c_42)) hP hD hS

set_option maxHeartbeats 4000000 in
set_option maxRecDepth 100000 in
theorem c_X12_end (Γ : GG) (l : Launch) (m : Nat → Nat) (M : MoV) (b : Nat → Int32) (C : CoV) (tr : Nat → TrV) (Y : YrV) (pc : Nat) (P : Nat → YrV) (f : Nat → Int32) (a : Int32) (hr : Rel b C tr Y pc P) (hI : Inv C tr Y) : Ci Γ l yX12_end cX12_end 2 (some (.int)) 2 46 0 0 [.ref (m 0), .int a] [bMo Γ m M, bA Γ (m 1) 259 b, bA Γ (m 6) 3 f] (fun (r : Int32) (u : (Nat → Int32) × (Nat → Int32)) => r = enR C tr Y a ∧ Rel u.1 C (enT C tr Y a) Y (okP (enOk C tr Y a) pc) P ∧ u.2 = enF M f C tr Y a) (fun (u : (Nat → Int32) × (Nat → Int32)) => [bMo Γ m M, bA Γ (m 1) 259 u.1, bA Γ (m 6) 3 u.2]) := by
  refine Ci.of (Or.inl rfl) (by decide) (Nat.le_of_ble_eq_true rfl) ?_
  intro pp ee ss mm bb me cd AA QQ XX hnm hA hP hD fin ls hl
  obtain ⟨zx, zb, hml, hown, hts, hK⟩ := id XX
  have hS : va_S AA ss.heap ss.heap [] := va_S.rf
  have hl : lv_has ls 2 [(0, .ref (m 0)), (1, .int a)] := hl
  have htc := inv_tc hI
  have hdc := inv_dc hI
  have hn := inv_n hI
  refine lv_aload_n zx zb dX12_end_0 rfl (lv_at hl 0 rfl) ?_
  refine lv_iload_n zx zb dX12_end_1 rfl (lv_at hl 1 rfl) ?_
  refine call_Vi (As := [.int a]) (rest := []) XX cv_X12_99 (c_X12_isTreaty Γ l m M b C tr Y pc P a (hr)) hP hD hS hA [0, 1] (by decide) rfl (fun _ => rfl) 0 0 rfl rfl rfl rfl hl.1 rfl ⟨⟨by decide, by decide⟩, by decide, by decide⟩ (Nat.le_of_ble_eq_true rfl) dX12_end_2 (fun r_2 u H locs hw hP hD hS => ?_)
  have hw := hw.symm
  subst hw
  have hP : bP Γ [bMo Γ m M, bA Γ (m 1) 259 b, bA Γ (m 6) 3 f] H := hP
  have hD : bD AA [bMo Γ m M, bA Γ (m 1) 259 b, bA Γ (m 6) 3 f] := hD
  refine lv_if_ne (tgt := 13) zx zb dX12_end_5 (by decide) (fun c_5 => ?_) (fun c_5 => ?_)
  · have c_5 : (stTreaty C a) = true := bI_ne c_5
    obtain ⟨j, hj, rfl⟩ := treaty_nat c_5 htc
    refine lv_aload_n zx zb dX12_end_13 rfl (lv_at hl 0 rfl) ?_
    refine g_get (v := .ref (m 1)) XX hP 0 0 rfl rfl rfl iwX12 0 (by decide) fl_X12_7 rfl dX12_end_14 ?_
    refine lv_iload_n zx zb dX12_end_17 rfl (lv_at hl 1 rfl) ?_
    refine lv_iconst (v := nI 4) zx zb dX12_end_18 (by decide) ?_
    refine callR_Si (As := [.int (nI j), .int (nI 4)]) (rest := [.ref (m 1)]) XX cs_X12_96 (c_X12_of0 Γ l j 4 ) hP hD hS hA nil_mem nil_D rfl hl.1 rfl ⟨⟨by decide, by decide⟩, by decide, by decide⟩ (Nat.le_of_ble_eq_true rfl) dX12_end_19 (fun r_19 H locs hw hP hS => ?_)
    have hw := hw.symm
    subst hw
    refine g_ialdN (i := 55 + 7 * j + 4) XX hP 1 0 rfl rfl (by omega) (by decide) dX12_end_22 ?_
    refine g_top (y := (tr j).2.2.2.2.2.1) (Rel.t4 hr (by omega)) ?_
    refine lv_aload_n zx zb dX12_end_23 rfl (lv_at hl 0 rfl) ?_
    refine g_get (v := .ref (m 1)) XX hP 0 0 rfl rfl rfl iwX12 0 (by decide) fl_X12_7 rfl dX12_end_24 ?_
    refine lv_iconst (v := nI 1) zx zb dX12_end_27 (by decide) ?_
    refine g_ialdN (i := 1) XX hP 1 0 rfl rfl (by omega) (by decide) dX12_end_28 ?_
    refine g_top (y := Y.1) (Rel.y hr) ?_
    refine lv_icmp_le (tgt := 51) zx zb dX12_end_29 (by decide) (fun c_29 => ?_) (fun c_29 => ?_)
    · have c_29 : ((tr j).2.2.2.2.2.1) ≤ Y.1 := c_29
      refine lv_aload_n zx zb dX12_end_51 rfl (lv_at hl 0 rfl) ?_
      refine call_Vi (As := []) (rest := []) XX cv_X12_102 (c_X12_no Γ l m M f ) hP hD hS hA [0, 2] (by decide) rfl (fun _ => rfl) 0 0 rfl rfl rfl rfl hl.1 rfl ⟨⟨by decide, by decide⟩, by decide, by decide⟩ (Nat.le_of_ble_eq_true rfl) dX12_end_52 (fun r_52 u H locs hw hP hD hS => ?_)
      obtain ⟨hw1, hw2⟩ := hw
      have hw1 := hw1.symm
      have hw2 := hw2.symm
      subst hw1
      subst hw2
      have hP : bP Γ [bMo Γ m M, bA Γ (m 1) 259 b, bA Γ (m 6) 3 (moRef M f 1)] H := hP
      have hD : bD AA [bMo Γ m M, bA Γ (m 1) 259 b, bA Γ (m 6) 3 (moRef M f 1)] := hD
      exact fin _ _ (-3) (b, (moRef M f 1)) 55 _ dX12_end_55 (fun h => by cases h) (by first | exact end_no hr (by omega) c_5 (runs_f1 c_29) | exact end_no hr (by omega) c_5 (runs_f2 c_48)) hP hD hS
    · have c_29 : ¬ (((tr j).2.2.2.2.2.1) ≤ Y.1) := c_29
      refine lv_aload_n zx zb dX12_end_32 rfl (lv_at hl 0 rfl) ?_
      refine g_get (v := .ref (m 1)) XX hP 0 0 rfl rfl rfl iwX12 0 (by decide) fl_X12_7 rfl dX12_end_33 ?_
      refine lv_iload_n zx zb dX12_end_36 rfl (lv_at hl 1 rfl) ?_
      refine lv_iconst (v := nI 3) zx zb dX12_end_37 (by decide) ?_
      refine callR_Si (As := [.int (nI j), .int (nI 3)]) (rest := [.ref (m 1)]) XX cs_X12_96 (c_X12_of0 Γ l j 3 ) hP hD hS hA nil_mem nil_D rfl hl.1 rfl ⟨⟨by decide, by decide⟩, by decide, by decide⟩ (Nat.le_of_ble_eq_true rfl) dX12_end_38 (fun r_38 H locs hw hP hS => ?_)
      have hw := hw.symm
      subst hw
      refine g_ialdN (i := 55 + 7 * j + 3) XX hP 1 0 rfl rfl (by omega) (by decide) dX12_end_41 ?_
      refine g_top (y := (tr j).2.2.2.2.1) (Rel.t3 hr (by omega)) ?_
      refine lv_aload_n zx zb dX12_end_42 rfl (lv_at hl 0 rfl) ?_
      refine g_get (v := .ref (m 1)) XX hP 0 0 rfl rfl rfl iwX12 0 (by decide) fl_X12_7 rfl dX12_end_43 ?_
      refine lv_iconst (v := nI 1) zx zb dX12_end_46 (by decide) ?_
      refine g_ialdN (i := 1) XX hP 1 0 rfl rfl (by omega) (by decide) dX12_end_47 ?_
      refine g_top (y := Y.1) (Rel.y hr) ?_
      refine lv_icmp_le (tgt := 56) zx zb dX12_end_48 (by decide) (fun c_48 => ?_) (fun c_48 => ?_)
      · have c_48 : ((tr j).2.2.2.2.1) ≤ Y.1 := c_48
        refine lv_aload_n zx zb dX12_end_56 rfl (lv_at hl 0 rfl) ?_
        refine lv_iload_n zx zb dX12_end_57 rfl (lv_at hl 1 rfl) ?_
        refine lv_iconst (v := nI 4) zx zb dX12_end_58 (by decide) ?_
        refine callR_Si (As := [.int (nI j), .int (nI 4)]) (rest := [.ref (m 0)]) XX cs_X12_96 (c_X12_of0 Γ l j 4 ) hP hD hS hA nil_mem nil_D rfl hl.1 rfl ⟨⟨by decide, by decide⟩, by decide, by decide⟩ (Nat.le_of_ble_eq_true rfl) dX12_end_59 (fun r_59 H locs hw hP hS => ?_)
        have hw := hw.symm
        subst hw
        refine lv_aload_n zx zb dX12_end_62 rfl (lv_at hl 0 rfl) ?_
        refine g_get (v := .ref (m 1)) XX hP 0 0 rfl rfl rfl iwX12 0 (by decide) fl_X12_7 rfl dX12_end_63 ?_
        refine lv_iconst (v := nI 1) zx zb dX12_end_66 (by decide) ?_
        refine g_ialdN (i := 1) XX hP 1 0 rfl rfl (by omega) (by decide) dX12_end_67 ?_
        refine g_top (y := Y.1) (Rel.y hr) ?_
        refine call_Vi (As := [.int (nI (55 + 7 * j + 4)), .int Y.1]) (rest := []) XX cv_X12_76 (c_X12_tells Γ l m M b (55 + 7 * j + 4) Y.1 (by omega)) hP hD hS hA [0, 1] (by decide) rfl (fun _ => rfl) 0 0 rfl rfl rfl rfl hl.1 rfl ⟨⟨by decide, by decide⟩, by decide, by decide⟩ (Nat.le_of_ble_eq_true rfl) dX12_end_68 (fun r_68 u H locs hw hP hD hS => ?_)
        obtain ⟨hw1, hw2⟩ := hw
        have hw1 := hw1.symm
        have hw2 := hw2.symm
        subst hw1
        subst hw2
        have hP : bP Γ [bMo Γ m M, bA Γ (m 1) 259 (upd (upd b (55 + 7 * j + 4) Y.1) 6 (nI 0)), bA Γ (m 6) 3 f] H := hP
        have hD : bD AA [bMo Γ m M, bA Γ (m 1) 259 (upd (upd b (55 + 7 * j + 4) Y.1) 6 (nI 0)), bA Γ (m 6) 3 f] := hD
        refine lv_pop zx zb dX12_end_71 rfl ?_
        refine lv_iconst (v := nI 1) zx zb dX12_end_72 (by decide) ?_
        exact fin _ _ (nI 1) ((upd (upd b (55 + 7 * j + 4) Y.1) 6 (nI 0)), f) 73 _ dX12_end_73 (fun h => by cases h) (end_ok hr htc hdc (by omega) c_5 (runs_t c_29 c_48)) hP hD hS
      · have c_48 : ¬ (((tr j).2.2.2.2.1) ≤ Y.1) := c_48
        refine lv_aload_n zx zb dX12_end_51 rfl (lv_at hl 0 rfl) ?_
        refine call_Vi (As := []) (rest := []) XX cv_X12_102 (c_X12_no Γ l m M f ) hP hD hS hA [0, 2] (by decide) rfl (fun _ => rfl) 0 0 rfl rfl rfl rfl hl.1 rfl ⟨⟨by decide, by decide⟩, by decide, by decide⟩ (Nat.le_of_ble_eq_true rfl) dX12_end_52 (fun r_52 u H locs hw hP hD hS => ?_)
        obtain ⟨hw1, hw2⟩ := hw
        have hw1 := hw1.symm
        have hw2 := hw2.symm
        subst hw1
        subst hw2
        have hP : bP Γ [bMo Γ m M, bA Γ (m 1) 259 b, bA Γ (m 6) 3 (moRef M f 1)] H := hP
        have hD : bD AA [bMo Γ m M, bA Γ (m 1) 259 b, bA Γ (m 6) 3 (moRef M f 1)] := hD
        exact fin _ _ (-3) (b, (moRef M f 1)) 55 _ dX12_end_55 (fun h => by cases h) (by first | exact end_no hr (by omega) c_5 (runs_f1 c_29) | exact end_no hr (by omega) c_5 (runs_f2 c_48)) hP hD hS
  · have c_5 : (stTreaty C a) = false := bI_0.mp c_5
    refine lv_aload_n zx zb dX12_end_8 rfl (lv_at hl 0 rfl) ?_
    refine call_Vi (As := []) (rest := []) XX cv_X12_59 (c_X12_bad Γ l m M f ) hP hD hS hA [0, 2] (by decide) rfl (fun _ => rfl) 0 0 rfl rfl rfl rfl hl.1 rfl ⟨⟨by decide, by decide⟩, by decide, by decide⟩ (Nat.le_of_ble_eq_true rfl) dX12_end_9 (fun r_9 u H locs hw hP hD hS => ?_)
    obtain ⟨hw1, hw2⟩ := hw
    have hw1 := hw1.symm
    have hw2 := hw2.symm
    subst hw1
    subst hw2
    have hP : bP Γ [bMo Γ m M, bA Γ (m 1) 259 b, bA Γ (m 6) 3 (moRef M f 0)] H := hP
    have hD : bD AA [bMo Γ m M, bA Γ (m 1) 259 b, bA Γ (m 6) 3 (moRef M f 0)] := hD
    exact fin _ _ (-2) (b, (moRef M f 0)) 12 _ dX12_end_12 (fun h => by cases h) (end_bad hr c_5) hP hD hS

set_option maxHeartbeats 4000000 in
set_option maxRecDepth 100000 in
theorem c_X12_burn (Γ : GG) (l : Launch) (m : Nat → Nat) (M : MoV) (b : Nat → Int32) (C : CoV) (tr : Nat → TrV) (Y : YrV) (pc : Nat) (P : Nat → YrV) (f : Nat → Int32) (w : Int32) (hr : Rel b C tr Y pc P) (hI : Inv C tr Y) : Ci Γ l yX12_burn cX12_burn 2 (some (.int)) 2 42 0 0 [.ref (m 0), .int w] [bMo Γ m M, bA Γ (m 1) 259 b, bA Γ (m 6) 3 f] (fun (r : Int32) (u : (Nat → Int32) × (Nat → Int32)) => r = buR C w ∧ Rel u.1 (buC C w) tr (buY Y w) (okP (wi w 0 1) pc) P ∧ u.2 = moV M f (wi w 0 1)) (fun (u : (Nat → Int32) × (Nat → Int32)) => [bMo Γ m M, bA Γ (m 1) 259 u.1, bA Γ (m 6) 3 u.2]) := by
  refine Ci.of (Or.inl rfl) (by decide) (Nat.le_of_ble_eq_true rfl) ?_
  intro pp ee ss mm bb me cd AA QQ XX hnm hA hP hD fin ls hl
  obtain ⟨zx, zb, hml, hown, hts, hK⟩ := id XX
  have hS : va_S AA ss.heap ss.heap [] := va_S.rf
  have hl : lv_has ls 2 [(0, .ref (m 0)), (1, .int w)] := hl
  have htc := inv_tc hI
  have hdc := inv_dc hI
  have hn := inv_n hI
  refine lv_iload_n zx zb dX12_burn_0 rfl (lv_at hl 1 rfl) ?_
  refine lv_i2l (v := w.toInt64) zx zb dX12_burn_1 rfl ?_
  refine lv_lconst (v := (0 : Int32).toInt64) zx zb dX12_burn_2 (by decide) ?_
  refine lv_lconst (v := (1 : Int32).toInt64) zx zb dX12_burn_3 (by decide) ?_
  refine callR_Si (As := [.long w.toInt64, .long ((0 : Int32).toInt64), .long ((1 : Int32).toInt64)]) (rest := []) XX cs_X12_53 (c_X12_in Γ l w 0 1 ) hP hD hS hA nil_mem nil_D rfl hl.1 rfl ⟨⟨by decide, by decide⟩, by decide, by decide⟩ (Nat.le_of_ble_eq_true rfl) dX12_burn_4 (fun r_4 H locs hw hP hS => ?_)
  have hw := hw.symm
  subst hw
  refine lv_if_eq (tgt := 27) zx zb dX12_burn_7 (by decide) (fun c_7 => ?_) (fun c_7 => ?_)
  · have c_7 : (wi w 0 1) = false := bI_0.mp c_7
    refine lv_aload_n zx zb dX12_burn_27 rfl (lv_at hl 0 rfl) ?_
    refine call_Vi (As := []) (rest := []) XX cv_X12_59 (c_X12_bad Γ l m M f ) hP hD hS hA [0, 2] (by decide) rfl (fun _ => rfl) 0 0 rfl rfl rfl rfl hl.1 rfl ⟨⟨by decide, by decide⟩, by decide, by decide⟩ (Nat.le_of_ble_eq_true rfl) dX12_burn_28 (fun r_28 u H locs hw hP hD hS => ?_)
    obtain ⟨hw1, hw2⟩ := hw
    have hw1 := hw1.symm
    have hw2 := hw2.symm
    subst hw1
    subst hw2
    have hP : bP Γ [bMo Γ m M, bA Γ (m 1) 259 b, bA Γ (m 6) 3 (moRef M f 0)] H := hP
    have hD : bD AA [bMo Γ m M, bA Γ (m 1) 259 b, bA Γ (m 6) 3 (moRef M f 0)] := hD
    exact fin _ _ (-2) (b, (moRef M f 0)) 31 _ dX12_burn_31 (fun h => by cases h) (by first | exact burn_no hr c_7 | exact burn_0 hr htc hdc c_7 c_12 | exact burn_1 hr htc hdc c_7 c_12) hP hD hS
  · have c_7 : (wi w 0 1) = true := bI_ne c_7
    refine lv_aload_n zx zb dX12_burn_10 rfl (lv_at hl 0 rfl) ?_
    refine lv_iload_n zx zb dX12_burn_11 rfl (lv_at hl 1 rfl) ?_
    refine lv_if_ne (tgt := 19) zx zb dX12_burn_12 (by decide) (fun c_12 => ?_) (fun c_12 => ?_)
    · have c_12 : ¬ (w = (0 : Int32)) := c_12
      refine lv_iconst (v := nI 5) zx zb dX12_burn_19 (by decide) ?_
      refine lv_iconst (v := nI 0) zx zb dX12_burn_20 (by decide) ?_
      refine call_Vi (As := [.int (nI 5), .int (nI 0)]) (rest := []) XX cv_X12_76 (c_X12_tells Γ l m M b 5 0 (by omega)) hP hD hS hA [0, 1] (by decide) rfl (fun _ => rfl) 0 0 rfl rfl rfl rfl hl.1 rfl ⟨⟨by decide, by decide⟩, by decide, by decide⟩ (Nat.le_of_ble_eq_true rfl) dX12_burn_21 (fun r_21 u H locs hw hP hD hS => ?_)
      obtain ⟨hw1, hw2⟩ := hw
      have hw1 := hw1.symm
      have hw2 := hw2.symm
      subst hw1
      subst hw2
      have hP : bP Γ [bMo Γ m M, bA Γ (m 1) 259 (upd (upd b 5 0) 6 (nI 0)), bA Γ (m 6) 3 f] H := hP
      have hD : bD AA [bMo Γ m M, bA Γ (m 1) 259 (upd (upd b 5 0) 6 (nI 0)), bA Γ (m 6) 3 f] := hD
      refine lv_goto (tgt := 31) zx zb dX12_burn_24 (by decide) ?_
      exact fin _ _ (b 5) ((upd (upd b 5 0) 6 (nI 0)), f) 31 _ dX12_burn_31 (fun h => by cases h) (by first | exact burn_no hr c_7 | exact burn_0 hr htc hdc c_7 c_12 | exact burn_1 hr htc hdc c_7 c_12) hP hD hS
    · have c_12 : w = (0 : Int32) := c_12
      refine lv_iconst (v := nI 4) zx zb dX12_burn_15 (by decide) ?_
      refine lv_goto (tgt := 20) zx zb dX12_burn_16 (by decide) ?_
      refine lv_iconst (v := nI 0) zx zb dX12_burn_20 (by decide) ?_
      refine call_Vi (As := [.int (nI 4), .int (nI 0)]) (rest := []) XX cv_X12_76 (c_X12_tells Γ l m M b 4 0 (by omega)) hP hD hS hA [0, 1] (by decide) rfl (fun _ => rfl) 0 0 rfl rfl rfl rfl hl.1 rfl ⟨⟨by decide, by decide⟩, by decide, by decide⟩ (Nat.le_of_ble_eq_true rfl) dX12_burn_21 (fun r_21 u H locs hw hP hD hS => ?_)
      obtain ⟨hw1, hw2⟩ := hw
      have hw1 := hw1.symm
      have hw2 := hw2.symm
      subst hw1
      subst hw2
      have hP : bP Γ [bMo Γ m M, bA Γ (m 1) 259 (upd (upd b 4 0) 6 (nI 0)), bA Γ (m 6) 3 f] H := hP
      have hD : bD AA [bMo Γ m M, bA Γ (m 1) 259 (upd (upd b 4 0) 6 (nI 0)), bA Γ (m 6) 3 f] := hD
      refine lv_goto (tgt := 31) zx zb dX12_burn_24 (by decide) ?_
      exact fin _ _ (b 4) ((upd (upd b 4 0) 6 (nI 0)), f) 31 _ dX12_burn_31 (fun h => by cases h) (by first | exact burn_no hr c_7 | exact burn_0 hr htc hdc c_7 c_12 | exact burn_1 hr htc hdc c_7 c_12) hP hD hS

set_option maxHeartbeats 4000000 in
set_option maxRecDepth 100000 in
theorem c_X12_clear (Γ : GG) (l : Launch) (m : Nat → Nat) (M : MoV)  : Ci Γ l yX12_clear cX12_clear 2 (some (.int)) 0 0 0 0 [.ref (m 0)] [bMo Γ m M] (fun (r : Int32) (u : MoV) => r = nI (M.2.1) ∧ u = (M.1, 0, M.2.2)) (fun (u : MoV) => [bMo Γ m u]) := by
  refine Ci.of (Or.inl rfl) (by decide) (Nat.le_of_ble_eq_true rfl) ?_
  intro pp ee ss mm bb me cd AA QQ XX hnm hA hP hD fin ls hl
  obtain ⟨zx, zb, hml, hown, hts, hK⟩ := id XX
  have hS : va_S AA ss.heap ss.heap [] := va_S.rf
  have hl : lv_has ls 2 [(0, .ref (m 0))] := hl
  refine lv_aload_n zx zb dX12_clear_0 rfl (lv_at hl 0 rfl) ?_
  refine g_get (v := .int (nI (M.2.1))) XX hP 0 0 rfl rfl rfl iwX12 8 (by decide) fl_X12_107 rfl dX12_clear_1 ?_
  refine lv_istore_n (lv' := [(1, .int (nI (M.2.1))), (0, .ref (m 0))]) zx zb dX12_clear_4 rfl hl (by decide) rfl (fun ls hl => ?_)
  refine lv_aload_n zx zb dX12_clear_5 rfl (lv_at hl 1 rfl) ?_
  refine lv_iconst (v := nI 0) zx zb dX12_clear_6 (by decide) ?_
  refine g_put (v := .int (nI 0)) (blk' := bMo Γ m (M.1, 0, M.2.2.1, M.2.2.2.1, M.2.2.2.2.1, M.2.2.2.2.2.1, M.2.2.2.2.2.2)) (bs' := [bMo Γ m (M.1, 0, M.2.2.1, M.2.2.2.1, M.2.2.2.2.1, M.2.2.2.2.2.1, M.2.2.2.2.2.2)]) XX hP hD hS 0 0 rfl rfl rfl iwX12 tyX12_ok nmX12 8 (by decide) fl_X12_107 rfl rfl rfl (Nat.le_of_ble_eq_true rfl) rfl rfl rfl dX12_clear_7 (fun H locs hP hD hS => ?_)
  refine lv_iload_n zx zb dX12_clear_10 rfl (lv_at hl 0 rfl) ?_
  exact fin _ _ (nI (M.2.1)) (M.1, 0, M.2.2.1, M.2.2.2.1, M.2.2.2.2.1, M.2.2.2.2.2.1, M.2.2.2.2.2.2) 11 _ dX12_clear_11 (fun h => by cases h) ⟨(rfl), (rfl)⟩ hP hD hS

set_option maxHeartbeats 4000000 in
set_option maxRecDepth 100000 in
theorem c_X12_type (Γ : GG) (l : Launch) (m : Nat → Nat) (M : MoV) (g : Nat → Int32) (f : Nat → Int32) (a : Int32) (hl0 : M.2.1 ≤ 150) : Ci Γ l yX12_type cX12_type 2 (some (.int)) 2 42 0 0 [.ref (m 0), .int a] [bMo Γ m M, bA Γ (m 7) 150 g, bA Γ (m 6) 3 f] (fun (r : Int32) (u : MoV × (Nat → Int32) × (Nat → Int32)) => r = (if wi a 0 127 = true then (if M.2.1 < 150 then nI (M.2.1 + 1) else -4) else -2) ∧ u = (if wi a 0 127 = true then (if M.2.1 < 150 then ((M.1, M.2.1 + 1, M.2.2), upd g M.2.1 a, f) else (M, g, moRef M f 2)) else (M, g, moRef M f 0))) (fun (u : MoV × (Nat → Int32) × (Nat → Int32)) => [bMo Γ m u.1, bA Γ (m 7) 150 u.2.1, bA Γ (m 6) 3 u.2.2]) := by
  refine Ci.of (Or.inl rfl) (by decide) (Nat.le_of_ble_eq_true rfl) ?_
  intro pp ee ss mm bb me cd AA QQ XX hnm hA hP hD fin ls hl
  obtain ⟨zx, zb, hml, hown, hts, hK⟩ := id XX
  have hS : va_S AA ss.heap ss.heap [] := va_S.rf
  have hl : lv_has ls 2 [(0, .ref (m 0)), (1, .int a)] := hl
  refine lv_iload_n zx zb dX12_type_0 rfl (lv_at hl 1 rfl) ?_
  refine lv_i2l (v := a.toInt64) zx zb dX12_type_1 rfl ?_
  refine lv_lconst (v := (0 : Int32).toInt64) zx zb dX12_type_2 (by decide) ?_
  refine lv_ldc2 zx zb hown (hts _ kl_X12_105) dX12_type_3 ?_
  refine g_topl (y := (127 : Int32).toInt64) (by decide) ?_
  refine callR_Si (As := [.long a.toInt64, .long ((0 : Int32).toInt64), .long ((127 : Int32).toInt64)]) (rest := []) XX cs_X12_53 (c_X12_in Γ l a 0 127 ) hP hD hS hA nil_mem nil_D rfl hl.1 rfl ⟨⟨by decide, by decide⟩, by decide, by decide⟩ (Nat.le_of_ble_eq_true rfl) dX12_type_6 (fun r_6 H locs hw hP hS => ?_)
  have hw := hw.symm
  subst hw
  refine lv_if_ne (tgt := 17) zx zb dX12_type_9 (by decide) (fun c_9 => ?_) (fun c_9 => ?_)
  · have c_9 : (wi a 0 127) = true := bI_ne c_9
    refine lv_aload_n zx zb dX12_type_17 rfl (lv_at hl 0 rfl) ?_
    refine g_get (v := .int (nI (M.2.1))) XX hP 0 0 rfl rfl rfl iwX12 8 (by decide) fl_X12_107 rfl dX12_type_18 ?_
    refine lv_sipush (v := nI 150) zx zb dX12_type_21 (by decide) ?_
    refine lv_icmp_ne (tgt := 32) zx zb dX12_type_24 (by decide) (fun c_24 => ?_) (fun c_24 => ?_)
    · have c_24 : ¬ (M.2.1 = 150) := fun h => c_24 ((nI_eq (a := M.2.1) (b := 150) (by omega) (by omega)).mpr h)
      refine lv_aload_n zx zb dX12_type_32 rfl (lv_at hl 0 rfl) ?_
      refine g_get (v := .ref (m 7)) XX hP 0 0 rfl rfl rfl iwX12 7 (by decide) fl_X12_29 rfl dX12_type_33 ?_
      refine lv_aload_n zx zb dX12_type_36 rfl (lv_at hl 0 rfl) ?_
      refine g_get (v := .int (nI (M.2.1))) XX hP 0 0 rfl rfl rfl iwX12 8 (by decide) fl_X12_107 rfl dX12_type_37 ?_
      refine lv_iload_n zx zb dX12_type_40 rfl (lv_at hl 1 rfl) ?_
      refine g_iastN (x := a) (i := M.2.1) (blk' := bA Γ (m 7) 150 (upd g M.2.1 a)) (bs' := [bMo Γ m M, bA Γ (m 7) 150 (upd g M.2.1 a), bA Γ (m 6) 3 f]) XX hP hD hS 1 0 rfl rfl (by omega) (by decide) rfl rfl dX12_type_41 (fun H locs hP hD hS => ?_)
      refine lv_aload_n zx zb dX12_type_42 rfl (lv_at hl 0 rfl) ?_
      refine lv_dup zx zb dX12_type_43 rfl ?_
      refine g_get (v := .int (nI (M.2.1))) XX hP 0 0 rfl rfl rfl iwX12 8 (by decide) fl_X12_107 rfl dX12_type_44 ?_
      refine lv_iconst (v := nI 1) zx zb dX12_type_47 (by decide) ?_
      refine lv_iadd zx zb dX12_type_48 ?_
      refine g_top (y := nI (M.2.1 + 1)) (nI_add M.2.1 1) ?_
      refine g_put (v := .int (nI (M.2.1 + 1))) (blk' := bMo Γ m (M.1, M.2.1 + 1, M.2.2.1, M.2.2.2.1, M.2.2.2.2.1, M.2.2.2.2.2.1, M.2.2.2.2.2.2)) (bs' := [bMo Γ m (M.1, M.2.1 + 1, M.2.2.1, M.2.2.2.1, M.2.2.2.2.1, M.2.2.2.2.2.1, M.2.2.2.2.2.2), bA Γ (m 7) 150 (upd g M.2.1 a), bA Γ (m 6) 3 f]) XX hP hD hS 0 0 rfl rfl rfl iwX12 tyX12_ok nmX12 8 (by decide) fl_X12_107 rfl rfl rfl (Nat.le_of_ble_eq_true rfl) rfl rfl rfl dX12_type_49 (fun H locs hP hD hS => ?_)
      refine lv_aload_n zx zb dX12_type_52 rfl (lv_at hl 0 rfl) ?_
      refine g_get (v := .int (nI (M.2.1 + 1))) XX hP 0 0 rfl rfl rfl iwX12 8 (by decide) fl_X12_107 rfl dX12_type_53 ?_
      exact fin _ _ (nI (M.2.1 + 1)) ((M.1, M.2.1 + 1, M.2.2.1, M.2.2.2.1, M.2.2.2.2.1, M.2.2.2.2.2.1, M.2.2.2.2.2.2), upd g M.2.1 a, f) 56 _ dX12_type_56 (fun h => by cases h) (by rw [if_pos c_9, if_pos c_9, if_pos (by omega), if_pos (by omega)]; exact ⟨rfl, rfl⟩) hP hD hS
    · have c_24 : M.2.1 = 150 := (nI_eq (a := M.2.1) (b := 150) (by omega) (by omega)).mp c_24
      refine lv_aload_n zx zb dX12_type_27 rfl (lv_at hl 0 rfl) ?_
      refine call_Vi (As := []) (rest := []) XX cv_X12_89 (c_X12_full Γ l m M f ) hP hD hS hA [0, 2] (by decide) rfl (fun _ => rfl) 0 0 rfl rfl rfl rfl hl.1 rfl ⟨⟨by decide, by decide⟩, by decide, by decide⟩ (Nat.le_of_ble_eq_true rfl) dX12_type_28 (fun r_28 u H locs hw hP hD hS => ?_)
      obtain ⟨hw1, hw2⟩ := hw
      have hw1 := hw1.symm
      have hw2 := hw2.symm
      subst hw1
      subst hw2
      have hP : bP Γ [bMo Γ m M, bA Γ (m 7) 150 g, bA Γ (m 6) 3 (moRef M f 2)] H := hP
      have hD : bD AA [bMo Γ m M, bA Γ (m 7) 150 g, bA Γ (m 6) 3 (moRef M f 2)] := hD
      exact fin _ _ (-4) (M, g, (moRef M f 2)) 31 _ dX12_type_31 (fun h => by cases h) (by rw [if_pos c_9, if_pos c_9, if_neg (by omega), if_neg (by omega)]; exact ⟨rfl, rfl⟩) hP hD hS
  · have c_9 : (wi a 0 127) = false := bI_0.mp c_9
    refine lv_aload_n zx zb dX12_type_12 rfl (lv_at hl 0 rfl) ?_
    refine call_Vi (As := []) (rest := []) XX cv_X12_59 (c_X12_bad Γ l m M f ) hP hD hS hA [0, 2] (by decide) rfl (fun _ => rfl) 0 0 rfl rfl rfl rfl hl.1 rfl ⟨⟨by decide, by decide⟩, by decide, by decide⟩ (Nat.le_of_ble_eq_true rfl) dX12_type_13 (fun r_13 u H locs hw hP hD hS => ?_)
    obtain ⟨hw1, hw2⟩ := hw
    have hw1 := hw1.symm
    have hw2 := hw2.symm
    subst hw1
    subst hw2
    have hP : bP Γ [bMo Γ m M, bA Γ (m 7) 150 g, bA Γ (m 6) 3 (moRef M f 0)] H := hP
    have hD : bD AA [bMo Γ m M, bA Γ (m 7) 150 g, bA Γ (m 6) 3 (moRef M f 0)] := hD
    exact fin _ _ (-2) (M, g, (moRef M f 0)) 16 _ dX12_type_16 (fun h => by cases h) (by rw [c_9]; exact ⟨rfl, rfl⟩) hP hD hS

set_option maxHeartbeats 4000000 in
set_option maxRecDepth 100000 in
theorem c_X12_tide (Γ : GG) (l : Launch) (m : Nat → Nat) (M : MoV) (b : Nat → Int32) (C : CoV) (tr : Nat → TrV) (Y : YrV) (pc : Nat) (P : Nat → YrV) (f : Nat → Int32) (k : Int32) (a : Int32) (w : Bool) (hr : Rel b C tr Y pc P) (hI : Inv C tr Y) : Ci Γ l yX12_tide cX12_tide 5 (some (.int)) 2 46 0 0 [.ref (m 0), .int k, .int a, .int (bI w)] [bMo Γ m M, bA Γ (m 1) 259 b, bA Γ (m 6) 3 f] (fun (r : Int32) (u : (Nat → Int32) × (Nat → Int32)) => r = tiR C k a ∧ Rel u.1 (tiC C k a w) tr Y (tiP C k a pc) P ∧ u.2 = tiF M f C k a) (fun (u : (Nat → Int32) × (Nat → Int32)) => [bMo Γ m M, bA Γ (m 1) 259 u.1, bA Γ (m 6) 3 u.2]) := by
  refine Ci.of (Or.inl rfl) (by decide) (Nat.le_of_ble_eq_true rfl) ?_
  intro pp ee ss mm bb me cd AA QQ XX hnm hA hP hD fin ls hl
  obtain ⟨zx, zb, hml, hown, hts, hK⟩ := id XX
  have hS : va_S AA ss.heap ss.heap [] := va_S.rf
  have hl : lv_has ls 5 [(0, .ref (m 0)), (1, .int k), (2, .int a), (3, .int (bI w))] := hl
  have htc := inv_tc hI
  have hdc := inv_dc hI
  have hn := inv_n hI
  refine lv_iload_n zx zb dX12_tide_0 rfl (lv_at hl 1 rfl) ?_
  refine lv_i2l (v := k.toInt64) zx zb dX12_tide_1 rfl ?_
  refine lv_lconst (v := (0 : Int32).toInt64) zx zb dX12_tide_2 (by decide) ?_
  refine lv_ldc2 zx zb hown (hts _ kl_X12_79) dX12_tide_3 ?_
  refine g_topl (y := (7 : Int32).toInt64) (by decide) ?_
  refine callR_Si (As := [.long k.toInt64, .long ((0 : Int32).toInt64), .long ((7 : Int32).toInt64)]) (rest := []) XX cs_X12_53 (c_X12_in Γ l k 0 7 ) hP hD hS hA nil_mem nil_D rfl hl.1 rfl ⟨⟨by decide, by decide⟩, by decide, by decide⟩ (Nat.le_of_ble_eq_true rfl) dX12_tide_6 (fun r_6 H locs hw hP hS => ?_)
  have hw := hw.symm
  subst hw
  refine lv_if_eq (tgt := 20) zx zb dX12_tide_9 (by decide) (fun c_9 => ?_) (fun c_9 => ?_)
  · have c_9 : (wi k 0 7) = false := bI_0.mp c_9
    refine lv_aload_n zx zb dX12_tide_20 rfl (lv_at hl 0 rfl) ?_
    refine call_Vi (As := []) (rest := []) XX cv_X12_59 (c_X12_bad Γ l m M f ) hP hD hS hA [0, 2] (by decide) rfl (fun _ => rfl) 0 0 rfl rfl rfl rfl hl.1 rfl ⟨⟨by decide, by decide⟩, by decide, by decide⟩ (Nat.le_of_ble_eq_true rfl) dX12_tide_21 (fun r_21 u H locs hw hP hD hS => ?_)
    obtain ⟨hw1, hw2⟩ := hw
    have hw1 := hw1.symm
    have hw2 := hw2.symm
    subst hw1
    subst hw2
    have hP : bP Γ [bMo Γ m M, bA Γ (m 1) 259 b, bA Γ (m 6) 3 (moRef M f 0)] H := hP
    have hD : bD AA [bMo Γ m M, bA Γ (m 1) 259 b, bA Γ (m 6) 3 (moRef M f 0)] := hD
    exact fin _ _ (-2) (b, (moRef M f 0)) 24 _ dX12_tide_24 (fun h => by cases h) (by first | exact tide_bad hr (Or.inl c_9) | exact tide_bad hr (Or.inr c_17)) hP hD hS
  · have c_9 : (wi k 0 7) = true := bI_ne c_9
    refine lv_aload_n zx zb dX12_tide_12 rfl (lv_at hl 0 rfl) ?_
    refine lv_iload_n zx zb dX12_tide_13 rfl (lv_at hl 2 rfl) ?_
    refine call_Vi (As := [.int a]) (rest := []) XX cv_X12_63 (c_X12_isCell Γ l m M b C tr Y pc P a (hr)) hP hD hS hA [0, 1] (by decide) rfl (fun _ => rfl) 0 0 rfl rfl rfl rfl hl.1 rfl ⟨⟨by decide, by decide⟩, by decide, by decide⟩ (Nat.le_of_ble_eq_true rfl) dX12_tide_14 (fun r_14 u H locs hw hP hD hS => ?_)
    have hw := hw.symm
    subst hw
    have hP : bP Γ [bMo Γ m M, bA Γ (m 1) 259 b, bA Γ (m 6) 3 f] H := hP
    have hD : bD AA [bMo Γ m M, bA Γ (m 1) 259 b, bA Γ (m 6) 3 f] := hD
    refine lv_if_ne (tgt := 25) zx zb dX12_tide_17 (by decide) (fun c_17 => ?_) (fun c_17 => ?_)
    · have c_17 : (stCell C a) = true := bI_ne c_17
      refine lv_aload_n zx zb dX12_tide_25 rfl (lv_at hl 0 rfl) ?_
      refine g_get (v := .ref (m 1)) XX hP 0 0 rfl rfl rfl iwX12 0 (by decide) fl_X12_7 rfl dX12_tide_26 ?_
      refine lv_iconst (v := nI 5) zx zb dX12_tide_29 (by decide) ?_
      refine g_ialdN (i := 5) XX hP 1 0 rfl rfl (by omega) (by decide) dX12_tide_30 ?_
      refine g_top (y := nI (C.2.2.2.2.2.2.2.1)) (Rel.dc hr) ?_
      refine lv_bipush (v := nI 6) zx zb dX12_tide_31 (by decide) ?_
      refine lv_icmp_ne (tgt := 41) zx zb dX12_tide_33 (by decide) (fun c_33 => ?_) (fun c_33 => ?_)
      · have c_33 : ¬ (C.2.2.2.2.2.2.2.1 = 6) := fun h => c_33 ((nI_eq (a := C.2.2.2.2.2.2.2.1) (b := 6) (by omega) (by omega)).mpr h)
        refine lv_bipush (v := nI 97) zx zb dX12_tide_41 (by decide) ?_
        refine lv_iconst (v := nI 3) zx zb dX12_tide_43 (by decide) ?_
        refine lv_aload_n zx zb dX12_tide_44 rfl (lv_at hl 0 rfl) ?_
        refine g_get (v := .ref (m 1)) XX hP 0 0 rfl rfl rfl iwX12 0 (by decide) fl_X12_7 rfl dX12_tide_45 ?_
        refine lv_iconst (v := nI 5) zx zb dX12_tide_48 (by decide) ?_
        refine g_ialdN (i := 5) XX hP 1 0 rfl rfl (by omega) (by decide) dX12_tide_49 ?_
        refine g_top (y := nI (C.2.2.2.2.2.2.2.1)) (Rel.dc hr) ?_
        refine lv_imul zx zb dX12_tide_50 ?_
        refine g_top (y := nI (3 * C.2.2.2.2.2.2.2.1)) (pk_mul 3 C.2.2.2.2.2.2.2.1) ?_
        refine lv_iadd zx zb dX12_tide_51 ?_
        refine g_top (y := nI (97 + (3 * C.2.2.2.2.2.2.2.1))) (nI_add 97 (3 * C.2.2.2.2.2.2.2.1)) ?_
        refine lv_istore (lv' := [(4, .int (nI (97 + (3 * C.2.2.2.2.2.2.2.1)))), (0, .ref (m 0)), (1, .int k), (2, .int a), (3, .int (bI w))]) zx zb dX12_tide_52 hl (by decide) rfl (fun ls hl => ?_)
        refine lv_aload_n zx zb dX12_tide_54 rfl (lv_at hl 1 rfl) ?_
        refine g_get (v := .ref (m 1)) XX hP 0 0 rfl rfl rfl iwX12 0 (by decide) fl_X12_7 rfl dX12_tide_55 ?_
        refine lv_iload zx zb dX12_tide_58 (lv_at hl 0 rfl) ?_
        refine lv_iload_n zx zb dX12_tide_60 rfl (lv_at hl 2 rfl) ?_
        refine g_iastN (x := k) (i := 97 + (3 * C.2.2.2.2.2.2.2.1)) (blk' := bA Γ (m 1) 259 (upd b (97 + (3 * C.2.2.2.2.2.2.2.1)) k)) (bs' := [bMo Γ m M, bA Γ (m 1) 259 (upd b (97 + (3 * C.2.2.2.2.2.2.2.1)) k), bA Γ (m 6) 3 f]) XX hP hD hS 1 0 rfl rfl (by omega) (by decide) rfl rfl dX12_tide_61 (fun H locs hP hD hS => ?_)
        refine lv_aload_n zx zb dX12_tide_62 rfl (lv_at hl 1 rfl) ?_
        refine g_get (v := .ref (m 1)) XX hP 0 0 rfl rfl rfl iwX12 0 (by decide) fl_X12_7 rfl dX12_tide_63 ?_
        refine lv_iload zx zb dX12_tide_66 (lv_at hl 0 rfl) ?_
        refine lv_iconst (v := nI 1) zx zb dX12_tide_68 (by decide) ?_
        refine lv_iadd zx zb dX12_tide_69 ?_
        refine g_top (y := nI (97 + (3 * C.2.2.2.2.2.2.2.1) + 1)) (nI_add (97 + (3 * C.2.2.2.2.2.2.2.1)) 1) ?_
        refine lv_iload_n zx zb dX12_tide_70 rfl (lv_at hl 3 rfl) ?_
        refine g_iastN (x := a) (i := 97 + (3 * C.2.2.2.2.2.2.2.1) + 1) (blk' := bA Γ (m 1) 259 (upd (upd b (97 + (3 * C.2.2.2.2.2.2.2.1)) k) (97 + (3 * C.2.2.2.2.2.2.2.1) + 1) a)) (bs' := [bMo Γ m M, bA Γ (m 1) 259 (upd (upd b (97 + (3 * C.2.2.2.2.2.2.2.1)) k) (97 + (3 * C.2.2.2.2.2.2.2.1) + 1) a), bA Γ (m 6) 3 f]) XX hP hD hS 1 0 rfl rfl (by omega) (by decide) rfl rfl dX12_tide_71 (fun H locs hP hD hS => ?_)
        refine lv_aload_n zx zb dX12_tide_72 rfl (lv_at hl 1 rfl) ?_
        refine g_get (v := .ref (m 1)) XX hP 0 0 rfl rfl rfl iwX12 0 (by decide) fl_X12_7 rfl dX12_tide_73 ?_
        refine lv_iload zx zb dX12_tide_76 (lv_at hl 0 rfl) ?_
        refine lv_iconst (v := nI 2) zx zb dX12_tide_78 (by decide) ?_
        refine lv_iadd zx zb dX12_tide_79 ?_
        refine g_top (y := nI (97 + (3 * C.2.2.2.2.2.2.2.1) + 2)) (nI_add (97 + (3 * C.2.2.2.2.2.2.2.1)) 2) ?_
        refine lv_iload_n zx zb dX12_tide_80 rfl (lv_at hl 4 rfl) ?_
        refine lv_if_eq (tgt := 88) zx zb dX12_tide_81 (by decide) (fun c_81 => ?_) (fun c_81 => ?_)
        · have c_81 : w = false := bI_0.mp c_81
          refine lv_iconst (v := nI 0) zx zb dX12_tide_88 (by decide) ?_
          refine g_iastN (x := nI 0) (i := 97 + (3 * C.2.2.2.2.2.2.2.1) + 2) (blk' := bA Γ (m 1) 259 (upd (upd (upd b (97 + (3 * C.2.2.2.2.2.2.2.1)) k) (97 + (3 * C.2.2.2.2.2.2.2.1) + 1) a) (97 + (3 * C.2.2.2.2.2.2.2.1) + 2) (nI 0))) (bs' := [bMo Γ m M, bA Γ (m 1) 259 (upd (upd (upd b (97 + (3 * C.2.2.2.2.2.2.2.1)) k) (97 + (3 * C.2.2.2.2.2.2.2.1) + 1) a) (97 + (3 * C.2.2.2.2.2.2.2.1) + 2) (nI 0)), bA Γ (m 6) 3 f]) XX hP hD hS 1 0 rfl rfl (by omega) (by decide) rfl rfl dX12_tide_89 (fun H locs hP hD hS => ?_)
          refine lv_aload_n zx zb dX12_tide_90 rfl (lv_at hl 1 rfl) ?_
          refine g_get (v := .ref (m 1)) XX hP 0 0 rfl rfl rfl iwX12 0 (by decide) fl_X12_7 rfl dX12_tide_91 ?_
          refine lv_iconst (v := nI 5) zx zb dX12_tide_94 (by decide) ?_
          refine lv_dup2_11 zx zb dX12_tide_95 rfl rfl ?_
          refine g_ialdN (i := 5) XX hP 1 0 rfl rfl (by omega) (by decide) dX12_tide_96 ?_
          refine g_top (y := nI (C.2.2.2.2.2.2.2.1)) (by rw [pk_un (by omega), pk_un (by omega), pk_un (by omega)]; exact hr.dc) ?_
          refine lv_iconst (v := nI 1) zx zb dX12_tide_97 (by decide) ?_
          refine lv_iadd zx zb dX12_tide_98 ?_
          refine g_top (y := nI (C.2.2.2.2.2.2.2.1 + 1)) (nI_add C.2.2.2.2.2.2.2.1 1) ?_
          refine g_iastN (x := nI (C.2.2.2.2.2.2.2.1 + 1)) (i := 5) (blk' := bA Γ (m 1) 259 (upd (upd (upd (upd b (97 + (3 * C.2.2.2.2.2.2.2.1)) k) (97 + (3 * C.2.2.2.2.2.2.2.1) + 1) a) (97 + (3 * C.2.2.2.2.2.2.2.1) + 2) (nI 0)) 5 (nI (C.2.2.2.2.2.2.2.1 + 1)))) (bs' := [bMo Γ m M, bA Γ (m 1) 259 (upd (upd (upd (upd b (97 + (3 * C.2.2.2.2.2.2.2.1)) k) (97 + (3 * C.2.2.2.2.2.2.2.1) + 1) a) (97 + (3 * C.2.2.2.2.2.2.2.1) + 2) (nI 0)) 5 (nI (C.2.2.2.2.2.2.2.1 + 1))), bA Γ (m 6) 3 f]) XX hP hD hS 1 0 rfl rfl (by omega) (by decide) rfl rfl dX12_tide_99 (fun H locs hP hD hS => ?_)
          refine lv_aload_n zx zb dX12_tide_100 rfl (lv_at hl 1 rfl) ?_
          refine g_get (v := .ref (m 1)) XX hP 0 0 rfl rfl rfl iwX12 0 (by decide) fl_X12_7 rfl dX12_tide_101 ?_
          refine lv_bipush (v := nI 6) zx zb dX12_tide_104 (by decide) ?_
          refine lv_iconst (v := nI 0) zx zb dX12_tide_106 (by decide) ?_
          refine g_iastN (x := nI 0) (i := 6) (blk' := bA Γ (m 1) 259 (upd (upd (upd (upd (upd b (97 + (3 * C.2.2.2.2.2.2.2.1)) k) (97 + (3 * C.2.2.2.2.2.2.2.1) + 1) a) (97 + (3 * C.2.2.2.2.2.2.2.1) + 2) (nI 0)) 5 (nI (C.2.2.2.2.2.2.2.1 + 1))) 6 (nI 0))) (bs' := [bMo Γ m M, bA Γ (m 1) 259 (upd (upd (upd (upd (upd b (97 + (3 * C.2.2.2.2.2.2.2.1)) k) (97 + (3 * C.2.2.2.2.2.2.2.1) + 1) a) (97 + (3 * C.2.2.2.2.2.2.2.1) + 2) (nI 0)) 5 (nI (C.2.2.2.2.2.2.2.1 + 1))) 6 (nI 0)), bA Γ (m 6) 3 f]) XX hP hD hS 1 0 rfl rfl (by omega) (by decide) rfl rfl dX12_tide_107 (fun H locs hP hD hS => ?_)
          refine lv_aload_n zx zb dX12_tide_108 rfl (lv_at hl 1 rfl) ?_
          refine g_get (v := .ref (m 1)) XX hP 0 0 rfl rfl rfl iwX12 0 (by decide) fl_X12_7 rfl dX12_tide_109 ?_
          refine lv_iconst (v := nI 5) zx zb dX12_tide_112 (by decide) ?_
          refine g_ialdN (i := 5) XX hP 1 0 rfl rfl (by omega) (by decide) dX12_tide_113 ?_
          refine g_top (y := nI (C.2.2.2.2.2.2.2.1 + 1)) (by rw [pk_un (by omega), pk_us]) ?_
          exact fin _ _ (nI (C.2.2.2.2.2.2.2.1 + 1)) (upd (upd (upd (upd (upd b (97 + (3 * C.2.2.2.2.2.2.2.1)) k) (97 + (3 * C.2.2.2.2.2.2.2.1) + 1) a) (97 + (3 * C.2.2.2.2.2.2.2.1) + 2) (nI 0)) 5 (nI (C.2.2.2.2.2.2.2.1 + 1))) 6 (nI 0), f) 114 _ dX12_tide_114 (fun h => by cases h) (by exact tide_ok (w := w) hr htc (by omega) c_9 c_17 (by first | (rw [c_81]; rfl)) (by first | rfl | (rw [pk_un (by omega), pk_us]; done))) hP hD hS
        · have c_81 : w = true := bI_ne c_81
          refine lv_iconst (v := nI 1) zx zb dX12_tide_84 (by decide) ?_
          refine lv_goto (tgt := 89) zx zb dX12_tide_85 (by decide) ?_
          refine g_iastN (x := nI 1) (i := 97 + (3 * C.2.2.2.2.2.2.2.1) + 2) (blk' := bA Γ (m 1) 259 (upd (upd (upd b (97 + (3 * C.2.2.2.2.2.2.2.1)) k) (97 + (3 * C.2.2.2.2.2.2.2.1) + 1) a) (97 + (3 * C.2.2.2.2.2.2.2.1) + 2) (nI 1))) (bs' := [bMo Γ m M, bA Γ (m 1) 259 (upd (upd (upd b (97 + (3 * C.2.2.2.2.2.2.2.1)) k) (97 + (3 * C.2.2.2.2.2.2.2.1) + 1) a) (97 + (3 * C.2.2.2.2.2.2.2.1) + 2) (nI 1)), bA Γ (m 6) 3 f]) XX hP hD hS 1 0 rfl rfl (by omega) (by decide) rfl rfl dX12_tide_89 (fun H locs hP hD hS => ?_)
          refine lv_aload_n zx zb dX12_tide_90 rfl (lv_at hl 1 rfl) ?_
          refine g_get (v := .ref (m 1)) XX hP 0 0 rfl rfl rfl iwX12 0 (by decide) fl_X12_7 rfl dX12_tide_91 ?_
          refine lv_iconst (v := nI 5) zx zb dX12_tide_94 (by decide) ?_
          refine lv_dup2_11 zx zb dX12_tide_95 rfl rfl ?_
          refine g_ialdN (i := 5) XX hP 1 0 rfl rfl (by omega) (by decide) dX12_tide_96 ?_
          refine g_top (y := nI (C.2.2.2.2.2.2.2.1)) (by rw [pk_un (by omega), pk_un (by omega), pk_un (by omega)]; exact hr.dc) ?_
          refine lv_iconst (v := nI 1) zx zb dX12_tide_97 (by decide) ?_
          refine lv_iadd zx zb dX12_tide_98 ?_
          refine g_top (y := nI (C.2.2.2.2.2.2.2.1 + 1)) (nI_add C.2.2.2.2.2.2.2.1 1) ?_
          refine g_iastN (x := nI (C.2.2.2.2.2.2.2.1 + 1)) (i := 5) (blk' := bA Γ (m 1) 259 (upd (upd (upd (upd b (97 + (3 * C.2.2.2.2.2.2.2.1)) k) (97 + (3 * C.2.2.2.2.2.2.2.1) + 1) a) (97 + (3 * C.2.2.2.2.2.2.2.1) + 2) (nI 1)) 5 (nI (C.2.2.2.2.2.2.2.1 + 1)))) (bs' := [bMo Γ m M, bA Γ (m 1) 259 (upd (upd (upd (upd b (97 + (3 * C.2.2.2.2.2.2.2.1)) k) (97 + (3 * C.2.2.2.2.2.2.2.1) + 1) a) (97 + (3 * C.2.2.2.2.2.2.2.1) + 2) (nI 1)) 5 (nI (C.2.2.2.2.2.2.2.1 + 1))), bA Γ (m 6) 3 f]) XX hP hD hS 1 0 rfl rfl (by omega) (by decide) rfl rfl dX12_tide_99 (fun H locs hP hD hS => ?_)
          refine lv_aload_n zx zb dX12_tide_100 rfl (lv_at hl 1 rfl) ?_
          refine g_get (v := .ref (m 1)) XX hP 0 0 rfl rfl rfl iwX12 0 (by decide) fl_X12_7 rfl dX12_tide_101 ?_
          refine lv_bipush (v := nI 6) zx zb dX12_tide_104 (by decide) ?_
          refine lv_iconst (v := nI 0) zx zb dX12_tide_106 (by decide) ?_
          refine g_iastN (x := nI 0) (i := 6) (blk' := bA Γ (m 1) 259 (upd (upd (upd (upd (upd b (97 + (3 * C.2.2.2.2.2.2.2.1)) k) (97 + (3 * C.2.2.2.2.2.2.2.1) + 1) a) (97 + (3 * C.2.2.2.2.2.2.2.1) + 2) (nI 1)) 5 (nI (C.2.2.2.2.2.2.2.1 + 1))) 6 (nI 0))) (bs' := [bMo Γ m M, bA Γ (m 1) 259 (upd (upd (upd (upd (upd b (97 + (3 * C.2.2.2.2.2.2.2.1)) k) (97 + (3 * C.2.2.2.2.2.2.2.1) + 1) a) (97 + (3 * C.2.2.2.2.2.2.2.1) + 2) (nI 1)) 5 (nI (C.2.2.2.2.2.2.2.1 + 1))) 6 (nI 0)), bA Γ (m 6) 3 f]) XX hP hD hS 1 0 rfl rfl (by omega) (by decide) rfl rfl dX12_tide_107 (fun H locs hP hD hS => ?_)
          refine lv_aload_n zx zb dX12_tide_108 rfl (lv_at hl 1 rfl) ?_
          refine g_get (v := .ref (m 1)) XX hP 0 0 rfl rfl rfl iwX12 0 (by decide) fl_X12_7 rfl dX12_tide_109 ?_
          refine lv_iconst (v := nI 5) zx zb dX12_tide_112 (by decide) ?_
          refine g_ialdN (i := 5) XX hP 1 0 rfl rfl (by omega) (by decide) dX12_tide_113 ?_
          refine g_top (y := nI (C.2.2.2.2.2.2.2.1 + 1)) (by rw [pk_un (by omega), pk_us]) ?_
          exact fin _ _ (nI (C.2.2.2.2.2.2.2.1 + 1)) (upd (upd (upd (upd (upd b (97 + (3 * C.2.2.2.2.2.2.2.1)) k) (97 + (3 * C.2.2.2.2.2.2.2.1) + 1) a) (97 + (3 * C.2.2.2.2.2.2.2.1) + 2) (nI 1)) 5 (nI (C.2.2.2.2.2.2.2.1 + 1))) 6 (nI 0), f) 114 _ dX12_tide_114 (fun h => by cases h) (by exact tide_ok (w := w) hr htc (by omega) c_9 c_17 (by first | (rw [c_81]; rfl)) (by first | rfl | (rw [pk_un (by omega), pk_us]; done))) hP hD hS
      · have c_33 : C.2.2.2.2.2.2.2.1 = 6 := (nI_eq (a := C.2.2.2.2.2.2.2.1) (b := 6) (by omega) (by omega)).mp c_33
        refine lv_aload_n zx zb dX12_tide_36 rfl (lv_at hl 0 rfl) ?_
        refine call_Vi (As := []) (rest := []) XX cv_X12_89 (c_X12_full Γ l m M f ) hP hD hS hA [0, 2] (by decide) rfl (fun _ => rfl) 0 0 rfl rfl rfl rfl hl.1 rfl ⟨⟨by decide, by decide⟩, by decide, by decide⟩ (Nat.le_of_ble_eq_true rfl) dX12_tide_37 (fun r_37 u H locs hw hP hD hS => ?_)
        obtain ⟨hw1, hw2⟩ := hw
        have hw1 := hw1.symm
        have hw2 := hw2.symm
        subst hw1
        subst hw2
        have hP : bP Γ [bMo Γ m M, bA Γ (m 1) 259 b, bA Γ (m 6) 3 (moRef M f 2)] H := hP
        have hD : bD AA [bMo Γ m M, bA Γ (m 1) 259 b, bA Γ (m 6) 3 (moRef M f 2)] := hD
        exact fin _ _ (-4) (b, (moRef M f 2)) 40 _ dX12_tide_40 (fun h => by cases h) (tide_full hr c_9 c_17 (by omega)) hP hD hS
    · have c_17 : (stCell C a) = false := bI_0.mp c_17
      refine lv_aload_n zx zb dX12_tide_20 rfl (lv_at hl 0 rfl) ?_
      refine call_Vi (As := []) (rest := []) XX cv_X12_59 (c_X12_bad Γ l m M f ) hP hD hS hA [0, 2] (by decide) rfl (fun _ => rfl) 0 0 rfl rfl rfl rfl hl.1 rfl ⟨⟨by decide, by decide⟩, by decide, by decide⟩ (Nat.le_of_ble_eq_true rfl) dX12_tide_21 (fun r_21 u H locs hw hP hD hS => ?_)
      obtain ⟨hw1, hw2⟩ := hw
      have hw1 := hw1.symm
      have hw2 := hw2.symm
      subst hw1
      subst hw2
      have hP : bP Γ [bMo Γ m M, bA Γ (m 1) 259 b, bA Γ (m 6) 3 (moRef M f 0)] H := hP
      have hD : bD AA [bMo Γ m M, bA Γ (m 1) 259 b, bA Γ (m 6) 3 (moRef M f 0)] := hD
      exact fin _ _ (-2) (b, (moRef M f 0)) 24 _ dX12_tide_24 (fun h => by cases h) (by first | exact tide_bad hr (Or.inl c_9) | exact tide_bad hr (Or.inr c_17)) hP hD hS
