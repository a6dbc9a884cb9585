theorem ci_X8_24 : CWI RX8 24 yX2_init cX2_init 3 1 := ⟨cd_X2_init, im_X2_init, in_X2, ml_X8_24, rfl, by decide +kernel⟩
theorem cm_X8_11 : CWIN RX8 11 yX10_init RX11 cX10_init 1 0 := ⟨cd_X10_init, im_X10_init, in_X10, nl_X8_11, rfl, by decide +kernel⟩
set_option maxHeartbeats 4000000 in
set_option maxRecDepth 100000 in
theorem c_X8_init (Γ : GG) (l : Launch) (a : Nat) (k : Nat → Nat)  : Cv Γ l yX8_init cX8_init 3 none 3 63 37 270 [.ref a, .ref (k 6)] [[(a, .inr (8, [.null, .null, .null, .int 0]))], bKd Γ k] (fun (u : (Nat → Nat) × (Nat → Nat) × (Nat → Nat) × (Nat → Nat → Nat)) => a = u.1 0) (fun (u : (Nat → Nat) × (Nat → Nat) × (Nat → Nat) × (Nat → Nat → Nat)) => [(bSt Γ u.1 u.2.1 u.2.2.1 u.2.2.2 0 ++ bCo Γ u.2.1 k (co0 6 coD) ++ bTs Γ u.2.1 k trD ++ bYr Γ u.2.2.1 yr0 ++ bYr Γ (u.2.2.2 0) yrD ++ bYr Γ (u.2.2.2 1) yrD ++ bYr Γ (u.2.2.2 2) yrD ++ bYr Γ (u.2.2.2 3) yrD ++ bYr Γ (u.2.2.2 4) yrD ++ bYr Γ (u.2.2.2 5) yrD), bKd Γ k]) := by
  refine Cv.of rfl (by decide) (Nat.le_of_ble_eq_true rfl) ?_
  intro pp ee ss mm bb me cd AA QQ XX hnm hA hP hD fin ls hl
  obtain ⟨zx, zb, hml, hown, hts, hK⟩ := id XX
  have hS : va_S AA ss.heap ss.heap [] := va_S.rf
  have hl : lv_has ls 3 [(0, .ref a), (1, .ref (k 6))] := hl
  refine lv_aload_n zx zb dX8_init_0 rfl (lv_at hl 0 rfl) ?_
  refine g_obji XX ml_X8_3 hl.1 (Nat.le_of_ble_eq_true rfl) (Nat.le_of_ble_eq_true rfl) dX8_init_1 ?_
  refine lv_aload_n zx zb dX8_init_4 rfl (lv_at hl 0 rfl) ?_
  refine g_new (fs := [.int 0, .int 0, .int 0, .null, .null]) XX hP hD hS hA 10 rfl iwX10 tyX10_ok cl_X8_9 it_X10 in_X10 (by intro j hj; rcases (show j = 0 ∨ j = 1 ∨ j = 2 ∨ j = 3 ∨ j = 4 by omega) with rfl | rfl | rfl | rfl | rfl <;> rfl) (by decide) (by decide) dX8_init_5 (fun q5_1 H hP hD hS => ?_)
  have hP : bP Γ [[(a, .inr (8, [.null, .null, .null, .int 0]))], bKd Γ k, [(q5_1, .inr (10, [.int 0, .int 0, .int 0, .null, .null]))]] H := hP
  have hD : bD AA [[(a, .inr (8, [.null, .null, .null, .int 0]))], bKd Γ k, [(q5_1, .inr (10, [.int 0, .int 0, .int 0, .null, .null]))]] := hD
  refine lv_dup zx zb dX8_init_8 rfl ?_
  refine call_INv (As := []) (rest := [.ref q5_1, .ref a]) XX cm_X8_11 (c_X10_init Γ l q5_1 ) hP hD hS hA [2] (by decide) rfl (fun _ => rfl) rfl hl.1 rfl ⟨⟨by decide, by decide⟩, by first | decide | omega, by first | decide | omega⟩ (Nat.le_of_ble_eq_true rfl) dX8_init_9 (fun u H locs hw hP hD hS => ?_)
  obtain ⟨u_9_2, rfl⟩ : ∃ z, z = u := ⟨_, rfl⟩
  have w_9_2 := hw
  subst w_9_2
  have hP : bP Γ [[(a, .inr (8, [.null, .null, .null, .int 0]))], bKd Γ k, bYr Γ u_9_2 yrD] H := hP
  have hD : bD AA [[(a, .inr (8, [.null, .null, .null, .int 0]))], bKd Γ k, bYr Γ u_9_2 yrD] := hD
  refine g_putF (v := .ref (u_9_2 0)) (blk' := [(a, .inr (8, [.null, .ref (u_9_2 0), .null, .int 0]))]) (bs' := [[(a, .inr (8, [.null, .ref (u_9_2 0), .null, .int 0]))], bKd Γ k, bYr Γ u_9_2 yrD]) XX hnm hP hD hS 0 0 rfl rfl rfl iwX8 tyX8_ok nmX8 1 (by decide) fl_X8_12 rfl rfl rfl rfl (Nat.le_of_ble_eq_true rfl) rfl rfl dX8_init_12 (fun H locs hP hD hS => ?_)
  refine lv_aload_n zx zb dX8_init_15 rfl (lv_at hl 0 rfl) ?_
  refine lv_bipush (v := nI 6) zx zb dX8_init_16 (by decide) ?_
  refine g_newq (N := 6) XX hP hD hS hA 5 rfl cl_X8_9 hK.2.2.2.2.2 (by decide) (by decide) (by decide) dX8_init_18 (fun q18_3 H hP hD hS => ?_)
  have hP : bP Γ [[(a, .inr (8, [.null, .ref (u_9_2 0), .null, .int 0]))], bKd Γ k, bYr Γ u_9_2 yrD, [(q18_3, .inl (Γ.2 5, 6, .inr (.inr (.inr (.inr (fun _ => none))))))]] H := hP
  have hD : bD AA [[(a, .inr (8, [.null, .ref (u_9_2 0), .null, .int 0]))], bKd Γ k, bYr Γ u_9_2 yrD, [(q18_3, .inl (Γ.2 5, 6, .inr (.inr (.inr (.inr (fun _ => none))))))]] := hD
  refine g_putF (v := .ref q18_3) (blk' := [(a, .inr (8, [.null, .ref (u_9_2 0), .ref q18_3, .int 0]))]) (bs' := [[(a, .inr (8, [.null, .ref (u_9_2 0), .ref q18_3, .int 0]))], bKd Γ k, bYr Γ u_9_2 yrD, [(q18_3, .inl (Γ.2 5, 6, .inr (.inr (.inr (.inr (fun _ => none))))))]]) XX hnm hP hD hS 0 0 rfl rfl rfl iwX8 tyX8_ok nmX8 2 (by decide) fl_X8_18 rfl rfl rfl rfl (Nat.le_of_ble_eq_true rfl) rfl rfl dX8_init_21 (fun H locs hP hD hS => ?_)
  refine lv_aload_n zx zb dX8_init_24 rfl (lv_at hl 0 rfl) ?_
  refine g_new (fs := [.null, .int 0, .int 0, .null, .null, .null, .null, .null, .int 0, .null, .null, .null, .int 0]) XX hP hD hS hA 2 rfl iwX2 tyX2_ok cl_X8_22 it_X2 in_X2 (by intro j hj; rcases (show j = 0 ∨ j = 1 ∨ j = 2 ∨ j = 3 ∨ j = 4 ∨ j = 5 ∨ j = 6 ∨ j = 7 ∨ j = 8 ∨ j = 9 ∨ j = 10 ∨ j = 11 ∨ j = 12 by omega) with rfl | rfl | rfl | rfl | rfl | rfl | rfl | rfl | rfl | rfl | rfl | rfl | rfl <;> rfl) (by decide) (by decide) dX8_init_25 (fun q25_4 H hP hD hS => ?_)
  have hP : bP Γ [[(a, .inr (8, [.null, .ref (u_9_2 0), .ref q18_3, .int 0]))], bKd Γ k, bYr Γ u_9_2 yrD, [(q18_3, .inl (Γ.2 5, 6, .inr (.inr (.inr (.inr (fun _ => none))))))], [(q25_4, .inr (2, [.null, .int 0, .int 0, .null, .null, .null, .null, .null, .int 0, .null, .null, .null, .int 0]))]] H := hP
  have hD : bD AA [[(a, .inr (8, [.null, .ref (u_9_2 0), .ref q18_3, .int 0]))], bKd Γ k, bYr Γ u_9_2 yrD, [(q18_3, .inl (Γ.2 5, 6, .inr (.inr (.inr (.inr (fun _ => none))))))], [(q25_4, .inr (2, [.null, .int 0, .int 0, .null, .null, .null, .null, .null, .int 0, .null, .null, .null, .int 0]))]] := hD
  refine lv_dup zx zb dX8_init_28 rfl ?_
  refine lv_aload_n zx zb dX8_init_29 rfl (lv_at hl 1 rfl) ?_
  refine call_Iv (As := [.ref (k 6)]) (rest := [.ref q25_4, .ref a]) XX ci_X8_24 (c_X2_init Γ l q25_4 k ) hP hD hS hA [4, 1] (by decide) rfl (fun _ => rfl) rfl hl.1 rfl ⟨⟨by decide, by decide⟩, by first | decide | omega, by first | decide | omega⟩ (Nat.le_of_ble_eq_true rfl) dX8_init_30 (fun u H locs hw hP hD hS => ?_)
  obtain ⟨u_30_5, rfl⟩ : ∃ z, z = u := ⟨_, rfl⟩
  have w_30_5 := hw
  subst w_30_5
  have hP : bP Γ [[(a, .inr (8, [.null, .ref (u_9_2 0), .ref q18_3, .int 0]))], bKd Γ k, bYr Γ u_9_2 yrD, [(q18_3, .inl (Γ.2 5, 6, .inr (.inr (.inr (.inr (fun _ => none))))))], bCo Γ u_30_5 k coD, bTs Γ u_30_5 k trD] H := hP
  have hD : bD AA [[(a, .inr (8, [.null, .ref (u_9_2 0), .ref q18_3, .int 0]))], bKd Γ k, bYr Γ u_9_2 yrD, [(q18_3, .inl (Γ.2 5, 6, .inr (.inr (.inr (.inr (fun _ => none))))))], bCo Γ u_30_5 k coD, bTs Γ u_30_5 k trD] := hD
  refine g_putF (v := .ref (u_30_5 0)) (blk' := [(a, .inr (8, [.ref (u_30_5 0), .ref (u_9_2 0), .ref q18_3, .int 0]))]) (bs' := [[(a, .inr (8, [.ref (u_30_5 0), .ref (u_9_2 0), .ref q18_3, .int 0]))], bKd Γ k, bYr Γ u_9_2 yrD, [(q18_3, .inl (Γ.2 5, 6, .inr (.inr (.inr (.inr (fun _ => none))))))], bCo Γ u_30_5 k coD, bTs Γ u_30_5 k trD]) XX hnm hP hD hS 0 0 rfl rfl rfl iwX8 tyX8_ok nmX8 0 (by decide) fl_X8_27 rfl rfl rfl rfl (Nat.le_of_ble_eq_true rfl) rfl rfl dX8_init_33 (fun H locs hP hD hS => ?_)
  refine lv_aload_n zx zb dX8_init_36 rfl (lv_at hl 0 rfl) ?_
  refine g_get (v := .ref (u_30_5 0)) XX hP 0 0 rfl rfl rfl iwX8 0 (by decide) fl_X8_27 rfl dX8_init_37 ?_
  refine lv_bipush (v := nI 6) zx zb dX8_init_40 (by decide) ?_
  refine call_Vv (As := [.int (nI 6)]) (rest := []) XX cv_X8_31 (c_X2_begin Γ l u_30_5 k coD 6 ) hP hD hS hA [4] (by decide) rfl (fun _ => rfl) 4 0 rfl rfl rfl rfl hl.1 rfl ⟨⟨by decide, by decide⟩, by decide, by decide⟩ (Nat.le_of_ble_eq_true rfl) dX8_init_42 (fun u H locs hw hP hD hS => ?_)
  have hw := hw.symm
  subst hw
  have hP : bP Γ [[(a, .inr (8, [.ref (u_30_5 0), .ref (u_9_2 0), .ref q18_3, .int 0]))], bKd Γ k, bYr Γ u_9_2 yrD, [(q18_3, .inl (Γ.2 5, 6, .inr (.inr (.inr (.inr (fun _ => none))))))], bCo Γ u_30_5 k (co0 6 coD), bTs Γ u_30_5 k trD] H := hP
  have hD : bD AA [[(a, .inr (8, [.ref (u_30_5 0), .ref (u_9_2 0), .ref q18_3, .int 0]))], bKd Γ k, bYr Γ u_9_2 yrD, [(q18_3, .inl (Γ.2 5, 6, .inr (.inr (.inr (.inr (fun _ => none))))))], bCo Γ u_30_5 k (co0 6 coD), bTs Γ u_30_5 k trD] := hD
  refine lv_aload_n zx zb dX8_init_45 rfl (lv_at hl 0 rfl) ?_
  refine g_get (v := .ref (u_9_2 0)) XX hP 0 0 rfl rfl rfl iwX8 1 (by decide) fl_X8_12 rfl dX8_init_46 ?_
  refine call_Vv (As := []) (rest := []) XX cv_X8_35 (c_X10_begin Γ l u_9_2 yrD ) hP hD hS hA [2] (by decide) rfl (fun _ => rfl) 2 0 rfl rfl rfl rfl hl.1 rfl ⟨⟨by decide, by decide⟩, by decide, by decide⟩ (Nat.le_of_ble_eq_true rfl) dX8_init_49 (fun u H locs hw hP hD hS => ?_)
  have hw := hw.symm
  subst hw
  have hP : bP Γ [[(a, .inr (8, [.ref (u_30_5 0), .ref (u_9_2 0), .ref q18_3, .int 0]))], bKd Γ k, bYr Γ u_9_2 yr0, [(q18_3, .inl (Γ.2 5, 6, .inr (.inr (.inr (.inr (fun _ => none))))))], bCo Γ u_30_5 k (co0 6 coD), bTs Γ u_30_5 k trD] H := hP
  have hD : bD AA [[(a, .inr (8, [.ref (u_30_5 0), .ref (u_9_2 0), .ref q18_3, .int 0]))], bKd Γ k, bYr Γ u_9_2 yr0, [(q18_3, .inl (Γ.2 5, 6, .inr (.inr (.inr (.inr (fun _ => none))))))], bCo Γ u_30_5 k (co0 6 coD), bTs Γ u_30_5 k trD] := hD
  refine lv_iconst (v := nI 0) zx zb dX8_init_52 (by decide) ?_
  refine lv_istore_n (lv' := [(2, .int (nI 0)), (0, .ref a), (1, .ref (k 6))]) zx zb dX8_init_53 rfl hl (by decide) rfl (fun ls hl => ?_)
  refine lv_iload_n zx zb dX8_init_54 rfl (lv_at hl 0 rfl) ?_
  refine lv_bipush (v := nI 6) zx zb dX8_init_55 (by decide) ?_
  refine lv_icmp_ge (tgt := 79) zx zb dX8_init_57 (by decide) (fun c_57 => ?_) (fun c_57 => ?_)
  · exact absurd c_57 (by decide)
  · clear c_57
    refine lv_aload_n zx zb dX8_init_60 rfl (lv_at hl 1 rfl) ?_
    refine g_get (v := .ref q18_3) XX hP 0 0 rfl rfl rfl iwX8 2 (by decide) fl_X8_18 rfl dX8_init_61 ?_
    refine lv_iload_n zx zb dX8_init_64 rfl (lv_at hl 0 rfl) ?_
    refine g_new (fs := [.int 0, .int 0, .int 0, .null, .null]) XX hP hD hS hA 10 rfl iwX10 tyX10_ok cl_X8_9 it_X10 in_X10 (by intro j hj; rcases (show j = 0 ∨ j = 1 ∨ j = 2 ∨ j = 3 ∨ j = 4 by omega) with rfl | rfl | rfl | rfl | rfl <;> rfl) (by decide) (by decide) dX8_init_65 (fun q65_6 H hP hD hS => ?_)
    have hP : bP Γ [[(a, .inr (8, [.ref (u_30_5 0), .ref (u_9_2 0), .ref q18_3, .int 0]))], bKd Γ k, bYr Γ u_9_2 yr0, [(q18_3, .inl (Γ.2 5, 6, .inr (.inr (.inr (.inr (fun _ => none))))))], bCo Γ u_30_5 k (co0 6 coD), bTs Γ u_30_5 k trD, [(q65_6, .inr (10, [.int 0, .int 0, .int 0, .null, .null]))]] H := hP
    have hD : bD AA [[(a, .inr (8, [.ref (u_30_5 0), .ref (u_9_2 0), .ref q18_3, .int 0]))], bKd Γ k, bYr Γ u_9_2 yr0, [(q18_3, .inl (Γ.2 5, 6, .inr (.inr (.inr (.inr (fun _ => none))))))], bCo Γ u_30_5 k (co0 6 coD), bTs Γ u_30_5 k trD, [(q65_6, .inr (10, [.int 0, .int 0, .int 0, .null, .null]))]] := hD
    refine lv_dup zx zb dX8_init_68 rfl ?_
    refine call_INv (As := []) (rest := [.ref q65_6, .int (nI 0), .ref q18_3]) XX cm_X8_11 (c_X10_init Γ l q65_6 ) hP hD hS hA [6] (by decide) rfl (fun _ => rfl) rfl hl.1 rfl ⟨⟨by decide, by decide⟩, by first | decide | omega, by first | decide | omega⟩ (Nat.le_of_ble_eq_true rfl) dX8_init_69 (fun u H locs hw hP hD hS => ?_)
    obtain ⟨u_69_7, rfl⟩ : ∃ z, z = u := ⟨_, rfl⟩
    have w_69_7 := hw
    subst w_69_7
    have hP : bP Γ [[(a, .inr (8, [.ref (u_30_5 0), .ref (u_9_2 0), .ref q18_3, .int 0]))], bKd Γ k, bYr Γ u_9_2 yr0, [(q18_3, .inl (Γ.2 5, 6, .inr (.inr (.inr (.inr (fun _ => none))))))], bCo Γ u_30_5 k (co0 6 coD), bTs Γ u_30_5 k trD, bYr Γ u_69_7 yrD] H := hP
    have hD : bD AA [[(a, .inr (8, [.ref (u_30_5 0), .ref (u_9_2 0), .ref q18_3, .int 0]))], bKd Γ k, bYr Γ u_9_2 yr0, [(q18_3, .inl (Γ.2 5, 6, .inr (.inr (.inr (.inr (fun _ => none))))))], bCo Γ u_30_5 k (co0 6 coD), bTs Γ u_30_5 k trD, bYr Γ u_69_7 yrD] := hD
    refine g_aastN (i := 0) (blk' := [(q18_3, .inl (Γ.2 5, 6, .inr (.inr (.inr (.inr (va_up (fun _ => none) 0 (some (u_69_7 0))))))))]) (bs' := [[(a, .inr (8, [.ref (u_30_5 0), .ref (u_9_2 0), .ref q18_3, .int 0]))], bKd Γ k, bYr Γ u_9_2 yr0, [(q18_3, .inl (Γ.2 5, 6, .inr (.inr (.inr (.inr (va_up (fun _ => none) 0 (some (u_69_7 0))))))))], bCo Γ u_30_5 k (co0 6 coD), bTs Γ u_30_5 k trD, bYr Γ u_69_7 yrD]) XX hP hD hS 3 0 5 6 0 rfl rfl rfl rfl rfl rfl (by decide) (by decide) rfl rfl dX8_init_72 (fun H locs hP hD hS => ?_)
    refine lv_iinc (v := nI 1) (lv' := [(2, .int (nI 1)), (0, .ref a), (1, .ref (k 6))]) zx zb dX8_init_73 hl (k := 0) rfl (nI_inc _ 1) (by decide) rfl (fun ls hl => ?_)
    refine lv_goto (tgt := 54) zx zb dX8_init_76 (by decide) ?_
    refine lv_iload_n zx zb dX8_init_54 rfl (lv_at hl 0 rfl) ?_
    refine lv_bipush (v := nI 6) zx zb dX8_init_55 (by decide) ?_
    refine lv_icmp_ge (tgt := 79) zx zb dX8_init_57 (by decide) (fun c_57 => ?_) (fun c_57 => ?_)
    · exact absurd c_57 (by decide)
    · clear c_57
      refine lv_aload_n zx zb dX8_init_60 rfl (lv_at hl 1 rfl) ?_
      refine g_get (v := .ref q18_3) XX hP 0 0 rfl rfl rfl iwX8 2 (by decide) fl_X8_18 rfl dX8_init_61 ?_
      refine lv_iload_n zx zb dX8_init_64 rfl (lv_at hl 0 rfl) ?_
      refine g_new (fs := [.int 0, .int 0, .int 0, .null, .null]) XX hP hD hS hA 10 rfl iwX10 tyX10_ok cl_X8_9 it_X10 in_X10 (by intro j hj; rcases (show j = 0 ∨ j = 1 ∨ j = 2 ∨ j = 3 ∨ j = 4 by omega) with rfl | rfl | rfl | rfl | rfl <;> rfl) (by decide) (by decide) dX8_init_65 (fun q65_8 H hP hD hS => ?_)
      have hP : bP Γ [[(a, .inr (8, [.ref (u_30_5 0), .ref (u_9_2 0), .ref q18_3, .int 0]))], bKd Γ k, bYr Γ u_9_2 yr0, [(q18_3, .inl (Γ.2 5, 6, .inr (.inr (.inr (.inr (va_up (fun _ => none) 0 (some (u_69_7 0))))))))], bCo Γ u_30_5 k (co0 6 coD), bTs Γ u_30_5 k trD, bYr Γ u_69_7 yrD, [(q65_8, .inr (10, [.int 0, .int 0, .int 0, .null, .null]))]] H := hP
      have hD : bD AA [[(a, .inr (8, [.ref (u_30_5 0), .ref (u_9_2 0), .ref q18_3, .int 0]))], bKd Γ k, bYr Γ u_9_2 yr0, [(q18_3, .inl (Γ.2 5, 6, .inr (.inr (.inr (.inr (va_up (fun _ => none) 0 (some (u_69_7 0))))))))], bCo Γ u_30_5 k (co0 6 coD), bTs Γ u_30_5 k trD, bYr Γ u_69_7 yrD, [(q65_8, .inr (10, [.int 0, .int 0, .int 0, .null, .null]))]] := hD
      refine lv_dup zx zb dX8_init_68 rfl ?_
      refine call_INv (As := []) (rest := [.ref q65_8, .int (nI 1), .ref q18_3]) XX cm_X8_11 (c_X10_init Γ l q65_8 ) hP hD hS hA [7] (by decide) rfl (fun _ => rfl) rfl hl.1 rfl ⟨⟨by decide, by decide⟩, by first | decide | omega, by first | decide | omega⟩ (Nat.le_of_ble_eq_true rfl) dX8_init_69 (fun u H locs hw hP hD hS => ?_)
      obtain ⟨u_69_9, rfl⟩ : ∃ z, z = u := ⟨_, rfl⟩
      have w_69_9 := hw
      subst w_69_9
      have hP : bP Γ [[(a, .inr (8, [.ref (u_30_5 0), .ref (u_9_2 0), .ref q18_3, .int 0]))], bKd Γ k, bYr Γ u_9_2 yr0, [(q18_3, .inl (Γ.2 5, 6, .inr (.inr (.inr (.inr (va_up (fun _ => none) 0 (some (u_69_7 0))))))))], bCo Γ u_30_5 k (co0 6 coD), bTs Γ u_30_5 k trD, bYr Γ u_69_7 yrD, bYr Γ u_69_9 yrD] H := hP
      have hD : bD AA [[(a, .inr (8, [.ref (u_30_5 0), .ref (u_9_2 0), .ref q18_3, .int 0]))], bKd Γ k, bYr Γ u_9_2 yr0, [(q18_3, .inl (Γ.2 5, 6, .inr (.inr (.inr (.inr (va_up (fun _ => none) 0 (some (u_69_7 0))))))))], bCo Γ u_30_5 k (co0 6 coD), bTs Γ u_30_5 k trD, bYr Γ u_69_7 yrD, bYr Γ u_69_9 yrD] := hD
      refine g_aastN (i := 1) (blk' := [(q18_3, .inl (Γ.2 5, 6, .inr (.inr (.inr (.inr (va_up (va_up (fun _ => none) 0 (some (u_69_7 0))) 1 (some (u_69_9 0))))))))]) (bs' := [[(a, .inr (8, [.ref (u_30_5 0), .ref (u_9_2 0), .ref q18_3, .int 0]))], bKd Γ k, bYr Γ u_9_2 yr0, [(q18_3, .inl (Γ.2 5, 6, .inr (.inr (.inr (.inr (va_up (va_up (fun _ => none) 0 (some (u_69_7 0))) 1 (some (u_69_9 0))))))))], bCo Γ u_30_5 k (co0 6 coD), bTs Γ u_30_5 k trD, bYr Γ u_69_7 yrD, bYr Γ u_69_9 yrD]) XX hP hD hS 3 0 5 7 0 rfl rfl rfl rfl rfl rfl (by decide) (by decide) rfl rfl dX8_init_72 (fun H locs hP hD hS => ?_)
      refine lv_iinc (v := nI 2) (lv' := [(2, .int (nI 2)), (0, .ref a), (1, .ref (k 6))]) zx zb dX8_init_73 hl (k := 0) rfl (nI_inc _ 1) (by decide) rfl (fun ls hl => ?_)
      refine lv_goto (tgt := 54) zx zb dX8_init_76 (by decide) ?_
      refine lv_iload_n zx zb dX8_init_54 rfl (lv_at hl 0 rfl) ?_
      refine lv_bipush (v := nI 6) zx zb dX8_init_55 (by decide) ?_
      refine lv_icmp_ge (tgt := 79) zx zb dX8_init_57 (by decide) (fun c_57 => ?_) (fun c_57 => ?_)
      · exact absurd c_57 (by decide)
      · clear c_57
        refine lv_aload_n zx zb dX8_init_60 rfl (lv_at hl 1 rfl) ?_
        refine g_get (v := .ref q18_3) XX hP 0 0 rfl rfl rfl iwX8 2 (by decide) fl_X8_18 rfl dX8_init_61 ?_
        refine lv_iload_n zx zb dX8_init_64 rfl (lv_at hl 0 rfl) ?_
        refine g_new (fs := [.int 0, .int 0, .int 0, .null, .null]) XX hP hD hS hA 10 rfl iwX10 tyX10_ok cl_X8_9 it_X10 in_X10 (by intro j hj; rcases (show j = 0 ∨ j = 1 ∨ j = 2 ∨ j = 3 ∨ j = 4 by omega) with rfl | rfl | rfl | rfl | rfl <;> rfl) (by decide) (by decide) dX8_init_65 (fun q65_10 H hP hD hS => ?_)
        have hP : bP Γ [[(a, .inr (8, [.ref (u_30_5 0), .ref (u_9_2 0), .ref q18_3, .int 0]))], bKd Γ k, bYr Γ u_9_2 yr0, [(q18_3, .inl (Γ.2 5, 6, .inr (.inr (.inr (.inr (va_up (va_up (fun _ => none) 0 (some (u_69_7 0))) 1 (some (u_69_9 0))))))))], bCo Γ u_30_5 k (co0 6 coD), bTs Γ u_30_5 k trD, bYr Γ u_69_7 yrD, bYr Γ u_69_9 yrD, [(q65_10, .inr (10, [.int 0, .int 0, .int 0, .null, .null]))]] H := hP
        have hD : bD AA [[(a, .inr (8, [.ref (u_30_5 0), .ref (u_9_2 0), .ref q18_3, .int 0]))], bKd Γ k, bYr Γ u_9_2 yr0, [(q18_3, .inl (Γ.2 5, 6, .inr (.inr (.inr (.inr (va_up (va_up (fun _ => none) 0 (some (u_69_7 0))) 1 (some (u_69_9 0))))))))], bCo Γ u_30_5 k (co0 6 coD), bTs Γ u_30_5 k trD, bYr Γ u_69_7 yrD, bYr Γ u_69_9 yrD, [(q65_10, .inr (10, [.int 0, .int 0, .int 0, .null, .null]))]] := hD
        refine lv_dup zx zb dX8_init_68 rfl ?_
        refine call_INv (As := []) (rest := [.ref q65_10, .int (nI 2), .ref q18_3]) XX cm_X8_11 (c_X10_init Γ l q65_10 ) hP hD hS hA [8] (by decide) rfl (fun _ => rfl) rfl hl.1 rfl ⟨⟨by decide, by decide⟩, by first | decide | omega, by first | decide | omega⟩ (Nat.le_of_ble_eq_true rfl) dX8_init_69 (fun u H locs hw hP hD hS => ?_)
        obtain ⟨u_69_11, rfl⟩ : ∃ z, z = u := ⟨_, rfl⟩
        have w_69_11 := hw
        subst w_69_11
        have hP : bP Γ [[(a, .inr (8, [.ref (u_30_5 0), .ref (u_9_2 0), .ref q18_3, .int 0]))], bKd Γ k, bYr Γ u_9_2 yr0, [(q18_3, .inl (Γ.2 5, 6, .inr (.inr (.inr (.inr (va_up (va_up (fun _ => none) 0 (some (u_69_7 0))) 1 (some (u_69_9 0))))))))], bCo Γ u_30_5 k (co0 6 coD), bTs Γ u_30_5 k trD, bYr Γ u_69_7 yrD, bYr Γ u_69_9 yrD, bYr Γ u_69_11 yrD] H := hP
        have hD : bD AA [[(a, .inr (8, [.ref (u_30_5 0), .ref (u_9_2 0), .ref q18_3, .int 0]))], bKd Γ k, bYr Γ u_9_2 yr0, [(q18_3, .inl (Γ.2 5, 6, .inr (.inr (.inr (.inr (va_up (va_up (fun _ => none) 0 (some (u_69_7 0))) 1 (some (u_69_9 0))))))))], bCo Γ u_30_5 k (co0 6 coD), bTs Γ u_30_5 k trD, bYr Γ u_69_7 yrD, bYr Γ u_69_9 yrD, bYr Γ u_69_11 yrD] := hD
        refine g_aastN (i := 2) (blk' := [(q18_3, .inl (Γ.2 5, 6, .inr (.inr (.inr (.inr (va_up (va_up (va_up (fun _ => none) 0 (some (u_69_7 0))) 1 (some (u_69_9 0))) 2 (some (u_69_11 0))))))))]) (bs' := [[(a, .inr (8, [.ref (u_30_5 0), .ref (u_9_2 0), .ref q18_3, .int 0]))], bKd Γ k, bYr Γ u_9_2 yr0, [(q18_3, .inl (Γ.2 5, 6, .inr (.inr (.inr (.inr (va_up (va_up (va_up (fun _ => none) 0 (some (u_69_7 0))) 1 (some (u_69_9 0))) 2 (some (u_69_11 0))))))))], bCo Γ u_30_5 k (co0 6 coD), bTs Γ u_30_5 k trD, bYr Γ u_69_7 yrD, bYr Γ u_69_9 yrD, bYr Γ u_69_11 yrD]) XX hP hD hS 3 0 5 8 0 rfl rfl rfl rfl rfl rfl (by decide) (by decide) rfl rfl dX8_init_72 (fun H locs hP hD hS => ?_)
        refine lv_iinc (v := nI 3) (lv' := [(2, .int (nI 3)), (0, .ref a), (1, .ref (k 6))]) zx zb dX8_init_73 hl (k := 0) rfl (nI_inc _ 1) (by decide) rfl (fun ls hl => ?_)
        refine lv_goto (tgt := 54) zx zb dX8_init_76 (by decide) ?_
        refine lv_iload_n zx zb dX8_init_54 rfl (lv_at hl 0 rfl) ?_
        refine lv_bipush (v := nI 6) zx zb dX8_init_55 (by decide) ?_
        refine lv_icmp_ge (tgt := 79) zx zb dX8_init_57 (by decide) (fun c_57 => ?_) (fun c_57 => ?_)
        · exact absurd c_57 (by decide)
        · clear c_57
          refine lv_aload_n zx zb dX8_init_60 rfl (lv_at hl 1 rfl) ?_
          refine g_get (v := .ref q18_3) XX hP 0 0 rfl rfl rfl iwX8 2 (by decide) fl_X8_18 rfl dX8_init_61 ?_
          refine lv_iload_n zx zb dX8_init_64 rfl (lv_at hl 0 rfl) ?_
          refine g_new (fs := [.int 0, .int 0, .int 0, .null, .null]) XX hP hD hS hA 10 rfl iwX10 tyX10_ok cl_X8_9 it_X10 in_X10 (by intro j hj; rcases (show j = 0 ∨ j = 1 ∨ j = 2 ∨ j = 3 ∨ j = 4 by omega) with rfl | rfl | rfl | rfl | rfl <;> rfl) (by decide) (by decide) dX8_init_65 (fun q65_12 H hP hD hS => ?_)
          have hP : bP Γ [[(a, .inr (8, [.ref (u_30_5 0), .ref (u_9_2 0), .ref q18_3, .int 0]))], bKd Γ k, bYr Γ u_9_2 yr0, [(q18_3, .inl (Γ.2 5, 6, .inr (.inr (.inr (.inr (va_up (va_up (va_up (fun _ => none) 0 (some (u_69_7 0))) 1 (some (u_69_9 0))) 2 (some (u_69_11 0))))))))], bCo Γ u_30_5 k (co0 6 coD), bTs Γ u_30_5 k trD, bYr Γ u_69_7 yrD, bYr Γ u_69_9 yrD, bYr Γ u_69_11 yrD, [(q65_12, .inr (10, [.int 0, .int 0, .int 0, .null, .null]))]] H := hP
          have hD : bD AA [[(a, .inr (8, [.ref (u_30_5 0), .ref (u_9_2 0), .ref q18_3, .int 0]))], bKd Γ k, bYr Γ u_9_2 yr0, [(q18_3, .inl (Γ.2 5, 6, .inr (.inr (.inr (.inr (va_up (va_up (va_up (fun _ => none) 0 (some (u_69_7 0))) 1 (some (u_69_9 0))) 2 (some (u_69_11 0))))))))], bCo Γ u_30_5 k (co0 6 coD), bTs Γ u_30_5 k trD, bYr Γ u_69_7 yrD, bYr Γ u_69_9 yrD, bYr Γ u_69_11 yrD, [(q65_12, .inr (10, [.int 0, .int 0, .int 0, .null, .null]))]] := hD
          refine lv_dup zx zb dX8_init_68 rfl ?_
          refine call_INv (As := []) (rest := [.ref q65_12, .int (nI 3), .ref q18_3]) XX cm_X8_11 (c_X10_init Γ l q65_12 ) hP hD hS hA [9] (by decide) rfl (fun _ => rfl) rfl hl.1 rfl ⟨⟨by decide, by decide⟩, by first | decide | omega, by first | decide | omega⟩ (Nat.le_of_ble_eq_true rfl) dX8_init_69 (fun u H locs hw hP hD hS => ?_)
          obtain ⟨u_69_13, rfl⟩ : ∃ z, z = u := ⟨_, rfl⟩
          have w_69_13 := hw
          subst w_69_13
          have hP : bP Γ [[(a, .inr (8, [.ref (u_30_5 0), .ref (u_9_2 0), .ref q18_3, .int 0]))], bKd Γ k, bYr Γ u_9_2 yr0, [(q18_3, .inl (Γ.2 5, 6, .inr (.inr (.inr (.inr (va_up (va_up (va_up (fun _ => none) 0 (some (u_69_7 0))) 1 (some (u_69_9 0))) 2 (some (u_69_11 0))))))))], bCo Γ u_30_5 k (co0 6 coD), bTs Γ u_30_5 k trD, bYr Γ u_69_7 yrD, bYr Γ u_69_9 yrD, bYr Γ u_69_11 yrD, bYr Γ u_69_13 yrD] H := hP
          have hD : bD AA [[(a, .inr (8, [.ref (u_30_5 0), .ref (u_9_2 0), .ref q18_3, .int 0]))], bKd Γ k, bYr Γ u_9_2 yr0, [(q18_3, .inl (Γ.2 5, 6, .inr (.inr (.inr (.inr (va_up (va_up (va_up (fun _ => none) 0 (some (u_69_7 0))) 1 (some (u_69_9 0))) 2 (some (u_69_11 0))))))))], bCo Γ u_30_5 k (co0 6 coD), bTs Γ u_30_5 k trD, bYr Γ u_69_7 yrD, bYr Γ u_69_9 yrD, bYr Γ u_69_11 yrD, bYr Γ u_69_13 yrD] := hD
          refine g_aastN (i := 3) (blk' := [(q18_3, .inl (Γ.2 5, 6, .inr (.inr (.inr (.inr (va_up (va_up (va_up (va_up (fun _ => none) 0 (some (u_69_7 0))) 1 (some (u_69_9 0))) 2 (some (u_69_11 0))) 3 (some (u_69_13 0))))))))]) (bs' := [[(a, .inr (8, [.ref (u_30_5 0), .ref (u_9_2 0), .ref q18_3, .int 0]))], bKd Γ k, bYr Γ u_9_2 yr0, [(q18_3, .inl (Γ.2 5, 6, .inr (.inr (.inr (.inr (va_up (va_up (va_up (va_up (fun _ => none) 0 (some (u_69_7 0))) 1 (some (u_69_9 0))) 2 (some (u_69_11 0))) 3 (some (u_69_13 0))))))))], bCo Γ u_30_5 k (co0 6 coD), bTs Γ u_30_5 k trD, bYr Γ u_69_7 yrD, bYr Γ u_69_9 yrD, bYr Γ u_69_11 yrD, bYr Γ u_69_13 yrD]) XX hP hD hS 3 0 5 9 0 rfl rfl rfl rfl rfl rfl (by decide) (by decide) rfl rfl dX8_init_72 (fun H locs hP hD hS => ?_)
          refine lv_iinc (v := nI 4) (lv' := [(2, .int (nI 4)), (0, .ref a), (1, .ref (k 6))]) zx zb dX8_init_73 hl (k := 0) rfl (nI_inc _ 1) (by decide) rfl (fun ls hl => ?_)
          refine lv_goto (tgt := 54) zx zb dX8_init_76 (by decide) ?_
          refine lv_iload_n zx zb dX8_init_54 rfl (lv_at hl 0 rfl) ?_
          refine lv_bipush (v := nI 6) zx zb dX8_init_55 (by decide) ?_
          refine lv_icmp_ge (tgt := 79) zx zb dX8_init_57 (by decide) (fun c_57 => ?_) (fun c_57 => ?_)
          · exact absurd c_57 (by decide)
          · clear c_57
            refine lv_aload_n zx zb dX8_init_60 rfl (lv_at hl 1 rfl) ?_
            refine g_get (v := .ref q18_3) XX hP 0 0 rfl rfl rfl iwX8 2 (by decide) fl_X8_18 rfl dX8_init_61 ?_
            refine lv_iload_n zx zb dX8_init_64 rfl (lv_at hl 0 rfl) ?_
            refine g_new (fs := [.int 0, .int 0, .int 0, .null, .null]) XX hP hD hS hA 10 rfl iwX10 tyX10_ok cl_X8_9 it_X10 in_X10 (by intro j hj; rcases (show j = 0 ∨ j = 1 ∨ j = 2 ∨ j = 3 ∨ j = 4 by omega) with rfl | rfl | rfl | rfl | rfl <;> rfl) (by decide) (by decide) dX8_init_65 (fun q65_14 H hP hD hS => ?_)
            have hP : bP Γ [[(a, .inr (8, [.ref (u_30_5 0), .ref (u_9_2 0), .ref q18_3, .int 0]))], bKd Γ k, bYr Γ u_9_2 yr0, [(q18_3, .inl (Γ.2 5, 6, .inr (.inr (.inr (.inr (va_up (va_up (va_up (va_up (fun _ => none) 0 (some (u_69_7 0))) 1 (some (u_69_9 0))) 2 (some (u_69_11 0))) 3 (some (u_69_13 0))))))))], bCo Γ u_30_5 k (co0 6 coD), bTs Γ u_30_5 k trD, bYr Γ u_69_7 yrD, bYr Γ u_69_9 yrD, bYr Γ u_69_11 yrD, bYr Γ u_69_13 yrD, [(q65_14, .inr (10, [.int 0, .int 0, .int 0, .null, .null]))]] H := hP
            have hD : bD AA [[(a, .inr (8, [.ref (u_30_5 0), .ref (u_9_2 0), .ref q18_3, .int 0]))], bKd Γ k, bYr Γ u_9_2 yr0, [(q18_3, .inl (Γ.2 5, 6, .inr (.inr (.inr (.inr (va_up (va_up (va_up (va_up (fun _ => none) 0 (some (u_69_7 0))) 1 (some (u_69_9 0))) 2 (some (u_69_11 0))) 3 (some (u_69_13 0))))))))], bCo Γ u_30_5 k (co0 6 coD), bTs Γ u_30_5 k trD, bYr Γ u_69_7 yrD, bYr Γ u_69_9 yrD, bYr Γ u_69_11 yrD, bYr Γ u_69_13 yrD, [(q65_14, .inr (10, [.int 0, .int 0, .int 0, .null, .null]))]] := hD
            refine lv_dup zx zb dX8_init_68 rfl ?_
            refine call_INv (As := []) (rest := [.ref q65_14, .int (nI 4), .ref q18_3]) XX cm_X8_11 (c_X10_init Γ l q65_14 ) hP hD hS hA [10] (by decide) rfl (fun _ => rfl) rfl hl.1 rfl ⟨⟨by decide, by decide⟩, by first | decide | omega, by first | decide | omega⟩ (Nat.le_of_ble_eq_true rfl) dX8_init_69 (fun u H locs hw hP hD hS => ?_)
            obtain ⟨u_69_15, rfl⟩ : ∃ z, z = u := ⟨_, rfl⟩
            have w_69_15 := hw
            subst w_69_15
            have hP : bP Γ [[(a, .inr (8, [.ref (u_30_5 0), .ref (u_9_2 0), .ref q18_3, .int 0]))], bKd Γ k, bYr Γ u_9_2 yr0, [(q18_3, .inl (Γ.2 5, 6, .inr (.inr (.inr (.inr (va_up (va_up (va_up (va_up (fun _ => none) 0 (some (u_69_7 0))) 1 (some (u_69_9 0))) 2 (some (u_69_11 0))) 3 (some (u_69_13 0))))))))], bCo Γ u_30_5 k (co0 6 coD), bTs Γ u_30_5 k trD, bYr Γ u_69_7 yrD, bYr Γ u_69_9 yrD, bYr Γ u_69_11 yrD, bYr Γ u_69_13 yrD, bYr Γ u_69_15 yrD] H := hP
            have hD : bD AA [[(a, .inr (8, [.ref (u_30_5 0), .ref (u_9_2 0), .ref q18_3, .int 0]))], bKd Γ k, bYr Γ u_9_2 yr0, [(q18_3, .inl (Γ.2 5, 6, .inr (.inr (.inr (.inr (va_up (va_up (va_up (va_up (fun _ => none) 0 (some (u_69_7 0))) 1 (some (u_69_9 0))) 2 (some (u_69_11 0))) 3 (some (u_69_13 0))))))))], bCo Γ u_30_5 k (co0 6 coD), bTs Γ u_30_5 k trD, bYr Γ u_69_7 yrD, bYr Γ u_69_9 yrD, bYr Γ u_69_11 yrD, bYr Γ u_69_13 yrD, bYr Γ u_69_15 yrD] := hD
            refine g_aastN (i := 4) (blk' := [(q18_3, .inl (Γ.2 5, 6, .inr (.inr (.inr (.inr (va_up (va_up (va_up (va_up (va_up (fun _ => none) 0 (some (u_69_7 0))) 1 (some (u_69_9 0))) 2 (some (u_69_11 0))) 3 (some (u_69_13 0))) 4 (some (u_69_15 0))))))))]) (bs' := [[(a, .inr (8, [.ref (u_30_5 0), .ref (u_9_2 0), .ref q18_3, .int 0]))], bKd Γ k, bYr Γ u_9_2 yr0, [(q18_3, .inl (Γ.2 5, 6, .inr (.inr (.inr (.inr (va_up (va_up (va_up (va_up (va_up (fun _ => none) 0 (some (u_69_7 0))) 1 (some (u_69_9 0))) 2 (some (u_69_11 0))) 3 (some (u_69_13 0))) 4 (some (u_69_15 0))))))))], bCo Γ u_30_5 k (co0 6 coD), bTs Γ u_30_5 k trD, bYr Γ u_69_7 yrD, bYr Γ u_69_9 yrD, bYr Γ u_69_11 yrD, bYr Γ u_69_13 yrD, bYr Γ u_69_15 yrD]) XX hP hD hS 3 0 5 10 0 rfl rfl rfl rfl rfl rfl (by decide) (by decide) rfl rfl dX8_init_72 (fun H locs hP hD hS => ?_)
            refine lv_iinc (v := nI 5) (lv' := [(2, .int (nI 5)), (0, .ref a), (1, .ref (k 6))]) zx zb dX8_init_73 hl (k := 0) rfl (nI_inc _ 1) (by decide) rfl (fun ls hl => ?_)
            refine lv_goto (tgt := 54) zx zb dX8_init_76 (by decide) ?_
            refine lv_iload_n zx zb dX8_init_54 rfl (lv_at hl 0 rfl) ?_
            refine lv_bipush (v := nI 6) zx zb dX8_init_55 (by decide) ?_
            refine lv_icmp_ge (tgt := 79) zx zb dX8_init_57 (by decide) (fun c_57 => ?_) (fun c_57 => ?_)
            · exact absurd c_57 (by decide)
            · clear c_57
              refine lv_aload_n zx zb dX8_init_60 rfl (lv_at hl 1 rfl) ?_
              refine g_get (v := .ref q18_3) XX hP 0 0 rfl rfl rfl iwX8 2 (by decide) fl_X8_18 rfl dX8_init_61 ?_
              refine lv_iload_n zx zb dX8_init_64 rfl (lv_at hl 0 rfl) ?_
              refine g_new (fs := [.int 0, .int 0, .int 0, .null, .null]) XX hP hD hS hA 10 rfl iwX10 tyX10_ok cl_X8_9 it_X10 in_X10 (by intro j hj; rcases (show j = 0 ∨ j = 1 ∨ j = 2 ∨ j = 3 ∨ j = 4 by omega) with rfl | rfl | rfl | rfl | rfl <;> rfl) (by decide) (by decide) dX8_init_65 (fun q65_16 H hP hD hS => ?_)
              have hP : bP Γ [[(a, .inr (8, [.ref (u_30_5 0), .ref (u_9_2 0), .ref q18_3, .int 0]))], bKd Γ k, bYr Γ u_9_2 yr0, [(q18_3, .inl (Γ.2 5, 6, .inr (.inr (.inr (.inr (va_up (va_up (va_up (va_up (va_up (fun _ => none) 0 (some (u_69_7 0))) 1 (some (u_69_9 0))) 2 (some (u_69_11 0))) 3 (some (u_69_13 0))) 4 (some (u_69_15 0))))))))], bCo Γ u_30_5 k (co0 6 coD), bTs Γ u_30_5 k trD, bYr Γ u_69_7 yrD, bYr Γ u_69_9 yrD, bYr Γ u_69_11 yrD, bYr Γ u_69_13 yrD, bYr Γ u_69_15 yrD, [(q65_16, .inr (10, [.int 0, .int 0, .int 0, .null, .null]))]] H := hP
              have hD : bD AA [[(a, .inr (8, [.ref (u_30_5 0), .ref (u_9_2 0), .ref q18_3, .int 0]))], bKd Γ k, bYr Γ u_9_2 yr0, [(q18_3, .inl (Γ.2 5, 6, .inr (.inr (.inr (.inr (va_up (va_up (va_up (va_up (va_up (fun _ => none) 0 (some (u_69_7 0))) 1 (some (u_69_9 0))) 2 (some (u_69_11 0))) 3 (some (u_69_13 0))) 4 (some (u_69_15 0))))))))], bCo Γ u_30_5 k (co0 6 coD), bTs Γ u_30_5 k trD, bYr Γ u_69_7 yrD, bYr Γ u_69_9 yrD, bYr Γ u_69_11 yrD, bYr Γ u_69_13 yrD, bYr Γ u_69_15 yrD, [(q65_16, .inr (10, [.int 0, .int 0, .int 0, .null, .null]))]] := hD
              refine lv_dup zx zb dX8_init_68 rfl ?_
              refine call_INv (As := []) (rest := [.ref q65_16, .int (nI 5), .ref q18_3]) XX cm_X8_11 (c_X10_init Γ l q65_16 ) hP hD hS hA [11] (by decide) rfl (fun _ => rfl) rfl hl.1 rfl ⟨⟨by decide, by decide⟩, by first | decide | omega, by first | decide | omega⟩ (Nat.le_of_ble_eq_true rfl) dX8_init_69 (fun u H locs hw hP hD hS => ?_)
              obtain ⟨u_69_17, rfl⟩ : ∃ z, z = u := ⟨_, rfl⟩
              have w_69_17 := hw
              subst w_69_17
              have hP : bP Γ [[(a, .inr (8, [.ref (u_30_5 0), .ref (u_9_2 0), .ref q18_3, .int 0]))], bKd Γ k, bYr Γ u_9_2 yr0, [(q18_3, .inl (Γ.2 5, 6, .inr (.inr (.inr (.inr (va_up (va_up (va_up (va_up (va_up (fun _ => none) 0 (some (u_69_7 0))) 1 (some (u_69_9 0))) 2 (some (u_69_11 0))) 3 (some (u_69_13 0))) 4 (some (u_69_15 0))))))))], bCo Γ u_30_5 k (co0 6 coD), bTs Γ u_30_5 k trD, bYr Γ u_69_7 yrD, bYr Γ u_69_9 yrD, bYr Γ u_69_11 yrD, bYr Γ u_69_13 yrD, bYr Γ u_69_15 yrD, bYr Γ u_69_17 yrD] H := hP
              have hD : bD AA [[(a, .inr (8, [.ref (u_30_5 0), .ref (u_9_2 0), .ref q18_3, .int 0]))], bKd Γ k, bYr Γ u_9_2 yr0, [(q18_3, .inl (Γ.2 5, 6, .inr (.inr (.inr (.inr (va_up (va_up (va_up (va_up (va_up (fun _ => none) 0 (some (u_69_7 0))) 1 (some (u_69_9 0))) 2 (some (u_69_11 0))) 3 (some (u_69_13 0))) 4 (some (u_69_15 0))))))))], bCo Γ u_30_5 k (co0 6 coD), bTs Γ u_30_5 k trD, bYr Γ u_69_7 yrD, bYr Γ u_69_9 yrD, bYr Γ u_69_11 yrD, bYr Γ u_69_13 yrD, bYr Γ u_69_15 yrD, bYr Γ u_69_17 yrD] := hD
              refine g_aastN (i := 5) (blk' := [(q18_3, .inl (Γ.2 5, 6, .inr (.inr (.inr (.inr (va_up (va_up (va_up (va_up (va_up (va_up (fun _ => none) 0 (some (u_69_7 0))) 1 (some (u_69_9 0))) 2 (some (u_69_11 0))) 3 (some (u_69_13 0))) 4 (some (u_69_15 0))) 5 (some (u_69_17 0))))))))]) (bs' := [[(a, .inr (8, [.ref (u_30_5 0), .ref (u_9_2 0), .ref q18_3, .int 0]))], bKd Γ k, bYr Γ u_9_2 yr0, [(q18_3, .inl (Γ.2 5, 6, .inr (.inr (.inr (.inr (va_up (va_up (va_up (va_up (va_up (va_up (fun _ => none) 0 (some (u_69_7 0))) 1 (some (u_69_9 0))) 2 (some (u_69_11 0))) 3 (some (u_69_13 0))) 4 (some (u_69_15 0))) 5 (some (u_69_17 0))))))))], bCo Γ u_30_5 k (co0 6 coD), bTs Γ u_30_5 k trD, bYr Γ u_69_7 yrD, bYr Γ u_69_9 yrD, bYr Γ u_69_11 yrD, bYr Γ u_69_13 yrD, bYr Γ u_69_15 yrD, bYr Γ u_69_17 yrD]) XX hP hD hS 3 0 5 11 0 rfl rfl rfl rfl rfl rfl (by decide) (by decide) rfl rfl dX8_init_72 (fun H locs hP hD hS => ?_)
              refine lv_iinc (v := nI 6) (lv' := [(2, .int (nI 6)), (0, .ref a), (1, .ref (k 6))]) zx zb dX8_init_73 hl (k := 0) rfl (nI_inc _ 1) (by decide) rfl (fun ls hl => ?_)
              refine lv_goto (tgt := 54) zx zb dX8_init_76 (by decide) ?_
              refine lv_iload_n zx zb dX8_init_54 rfl (lv_at hl 0 rfl) ?_
              refine lv_bipush (v := nI 6) zx zb dX8_init_55 (by decide) ?_
              refine lv_icmp_ge (tgt := 79) zx zb dX8_init_57 (by decide) (fun c_57 => ?_) (fun c_57 => ?_)
              · clear c_57
                have hP := bl_congrQ hP 3 0 rfl (fun j => some ((pad [u_69_7, u_69_9, u_69_11, u_69_13, u_69_15, u_69_17]) j 0)) rfl (six rfl rfl rfl rfl rfl rfl) rfl rfl
                have hD := bl_congrD (e := .inl (Γ.2 5, 6, .inr (.inr (.inr (.inr (fun j => some ((pad [u_69_7, u_69_9, u_69_11, u_69_13, u_69_15, u_69_17]) j 0))))))) hD 3 0 rfl rfl rfl rfl
                exact fin _ _ (adr [a, q18_3], u_30_5, u_9_2, pad [u_69_7, u_69_9, u_69_11, u_69_13, u_69_15, u_69_17]) 79 _ dX8_init_79 rfl (va_P.sub hP [0, 11, 12, 13, 14, 15, 16, 17, 18, 19, 20, 21, 22, 23, 24, 25, 26, 8, 9, 10, 27, 28, 29, 30, 31, 32, 33, 34, 35, 36, 37, 38, 39, 40, 41, 42, 43, 44, 1, 2, 3, 4, 5, 6, 7] rfl) (va_D.sub hD [0, 11, 12, 13, 14, 15, 16, 17, 18, 19, 20, 21, 22, 23, 24, 25, 26, 8, 9, 10, 27, 28, 29, 30, 31, 32, 33, 34, 35, 36, 37, 38, 39, 40, 41, 42, 43, 44, 1, 2, 3, 4, 5, 6, 7] (by decide) rfl) hS
              · exact absurd c_57 (by decide)

set_option maxHeartbeats 4000000 in
set_option maxRecDepth 100000 in
theorem c_X7_init (Γ : GG) (l : Launch) (a : Nat)  : Cv Γ l yX7_init cX7_init 1 none 1 20 3 325 [.ref a] [[(a, .inr (7, [.null, .int 0, .int 0, .null, .null, .int 0, .int 0]))]] (fun (u : Nat → Nat) => a = u 2) (fun (u : Nat → Nat) => [bSc Γ u scD]) := by
  refine Cv.of rfl (by decide) (Nat.le_of_ble_eq_true rfl) ?_
  intro pp ee ss mm bb me cd AA QQ XX hnm hA hP hD fin ls hl
  obtain ⟨zx, zb, hml, hown, hts, hK⟩ := id XX
  have hS : va_S AA ss.heap ss.heap [] := va_S.rf
  have hl : lv_has ls 1 [(0, .ref a)] := hl
  refine lv_aload_n zx zb dX7_init_0 rfl (lv_at hl 0 rfl) ?_
  refine g_obji XX ml_X7_3 hl.1 (Nat.le_of_ble_eq_true rfl) (Nat.le_of_ble_eq_true rfl) dX7_init_1 ?_
  refine lv_aload_n zx zb dX7_init_4 rfl (lv_at hl 0 rfl) ?_
  refine lv_sipush (v := nI 150) zx zb dX7_init_5 (by decide) ?_
  refine g_newI (N := 150) XX hP hD hS hA (by decide) (by decide) (by decide) dX7_init_8 (fun q8_1 H hP hD hS => ?_)
  have hP : bP Γ [[(a, .inr (7, [.null, .int 0, .int 0, .null, .null, .int 0, .int 0]))], bA Γ q8_1 150 (fun _ => 0)] H := hP
  have hD : bD AA [[(a, .inr (7, [.null, .int 0, .int 0, .null, .null, .int 0, .int 0]))], bA Γ q8_1 150 (fun _ => 0)] := hD
  refine g_putF (v := .ref q8_1) (blk' := [(a, .inr (7, [.ref q8_1, .int 0, .int 0, .null, .null, .int 0, .int 0]))]) (bs' := [[(a, .inr (7, [.ref q8_1, .int 0, .int 0, .null, .null, .int 0, .int 0]))], bA Γ q8_1 150 (fun _ => 0)]) XX hnm hP hD hS 0 0 rfl rfl rfl iwX7 tyX7_ok nmX7 0 (by decide) fl_X7_9 rfl rfl rfl rfl (Nat.le_of_ble_eq_true rfl) rfl rfl dX7_init_10 (fun H locs hP hD hS => ?_)
  refine lv_aload_n zx zb dX7_init_13 rfl (lv_at hl 0 rfl) ?_
  refine lv_sipush (v := nI 150) zx zb dX7_init_14 (by decide) ?_
  refine g_newI (N := 150) XX hP hD hS hA (by decide) (by decide) (by decide) dX7_init_17 (fun q17_2 H hP hD hS => ?_)
  have hP : bP Γ [[(a, .inr (7, [.ref q8_1, .int 0, .int 0, .null, .null, .int 0, .int 0]))], bA Γ q8_1 150 (fun _ => 0), bA Γ q17_2 150 (fun _ => 0)] H := hP
  have hD : bD AA [[(a, .inr (7, [.ref q8_1, .int 0, .int 0, .null, .null, .int 0, .int 0]))], bA Γ q8_1 150 (fun _ => 0), bA Γ q17_2 150 (fun _ => 0)] := hD
  refine g_putF (v := .ref q17_2) (blk' := [(a, .inr (7, [.ref q8_1, .int 0, .int 0, .ref q17_2, .null, .int 0, .int 0]))]) (bs' := [[(a, .inr (7, [.ref q8_1, .int 0, .int 0, .ref q17_2, .null, .int 0, .int 0]))], bA Γ q8_1 150 (fun _ => 0), bA Γ q17_2 150 (fun _ => 0)]) XX hnm hP hD hS 0 0 rfl rfl rfl iwX7 tyX7_ok nmX7 3 (by decide) fl_X7_15 rfl rfl rfl rfl (Nat.le_of_ble_eq_true rfl) rfl rfl dX7_init_19 (fun H locs hP hD hS => ?_)
  refine lv_aload_n zx zb dX7_init_22 rfl (lv_at hl 0 rfl) ?_
  refine lv_bipush (v := nI 25) zx zb dX7_init_23 (by decide) ?_
  refine g_newI (N := 25) XX hP hD hS hA (by decide) (by decide) (by decide) dX7_init_25 (fun q25_3 H hP hD hS => ?_)
  have hP : bP Γ [[(a, .inr (7, [.ref q8_1, .int 0, .int 0, .ref q17_2, .null, .int 0, .int 0]))], bA Γ q8_1 150 (fun _ => 0), bA Γ q17_2 150 (fun _ => 0), bA Γ q25_3 25 (fun _ => 0)] H := hP
  have hD : bD AA [[(a, .inr (7, [.ref q8_1, .int 0, .int 0, .ref q17_2, .null, .int 0, .int 0]))], bA Γ q8_1 150 (fun _ => 0), bA Γ q17_2 150 (fun _ => 0), bA Γ q25_3 25 (fun _ => 0)] := hD
  refine g_putF (v := .ref q25_3) (blk' := [(a, .inr (7, [.ref q8_1, .int 0, .int 0, .ref q17_2, .ref q25_3, .int 0, .int 0]))]) (bs' := [[(a, .inr (7, [.ref q8_1, .int 0, .int 0, .ref q17_2, .ref q25_3, .int 0, .int 0]))], bA Γ q8_1 150 (fun _ => 0), bA Γ q17_2 150 (fun _ => 0), bA Γ q25_3 25 (fun _ => 0)]) XX hnm hP hD hS 0 0 rfl rfl rfl iwX7 tyX7_ok nmX7 4 (by decide) fl_X7_18 rfl rfl rfl rfl (Nat.le_of_ble_eq_true rfl) rfl rfl dX7_init_27 (fun H locs hP hD hS => ?_)
  exact fin _ _ (adr [0, 0, a, 0, q8_1, q17_2, q25_3]) 30 _ dX7_init_30 rfl (va_P.sub hP [0, 1, 2, 3] rfl) (va_D.sub hD [0, 1, 2, 3] (by decide) rfl) hS
