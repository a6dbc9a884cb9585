theorem cv_X8_37 : CWV RX8 37 RX2 yX2_copyOf cX2_copyOf 3 none 1 := ⟨cd_X2_copyOf, im_X2_copyOf, se_X2_X2_copyOf_X2_copyOf, in_X2, ml_X8_37, by decide +kernel⟩
theorem cv_X8_41 : CWV RX8 41 RX10 yX10_copyOf cX10_copyOf 2 none 1 := ⟨cd_X10_copyOf, im_X10_copyOf, se_X10_X10_copyOf_X10_copyOf, in_X10, ml_X8_41, by decide +kernel⟩
theorem cv_X8_48 : CWV RX8 48 RX8 yX8_forgetOldest cX8_forgetOldest 3 none 0 := ⟨cd_X8_forgetOldest, im_X8_forgetOldest, se_X8_X8_forgetOldest_X8_forgetOldest, in_X8, ml_X8_48, by decide +kernel⟩
set_option maxHeartbeats 4000000 in
set_option maxRecDepth 100000 in
theorem c_X8_forgetOldest (Γ : GG) (l : Launch) (s : Nat → Nat) (c : Nat → Nat) (y : Nat → Nat) (p : Nat → Nat → Nat) (P : Nat → YrV)  : Cv Γ l yX8_forgetOldest cX8_forgetOldest 3 none 0 0 0 0 [.ref (s 0)] [bSt Γ s c y p 6, bYr Γ (p 0) (P 0), bYr Γ (p 1) (P 1), bYr Γ (p 2) (P 2), bYr Γ (p 3) (P 3), bYr Γ (p 4) (P 4), bYr Γ (p 5) (P 5)] (fun (u : Unit) => True) (fun (u : Unit) => [bSt Γ s c y (rotP p) 5, bYr Γ (p 0) (P 0), bYr Γ (p 1) (P 1), bYr Γ (p 2) (P 2), bYr Γ (p 3) (P 3), bYr Γ (p 4) (P 4), bYr Γ (p 5) (P 5)]) := by
  refine Cv.of rfl (by decide) (Nat.le_of_ble_eq_true rfl) ?_
  intro pp ee ss mm bb me cd AA QQ XX hnm hA hP hD fin ls hl
  obtain ⟨zx, zb, hml, hown, hts, hK⟩ := id XX
  have hS : va_S AA ss.heap ss.heap [] := va_S.rf
  have hl : lv_has ls 3 [(0, .ref (s 0))] := hl
  have hP : bP Γ [bSr Γ s c y (6, fun j => some (p j 0)), bYr Γ (p 0) (P 0), bYr Γ (p 1) (P 1), bYr Γ (p 2) (P 2), bYr Γ (p 3) (P 3), bYr Γ (p 4) (P 4), bYr Γ (p 5) (P 5)] ss.heap := hP
  have hD : bD AA [bSr Γ s c y (6, fun j => some (p j 0)), bYr Γ (p 0) (P 0), bYr Γ (p 1) (P 1), bYr Γ (p 2) (P 2), bYr Γ (p 3) (P 3), bYr Γ (p 4) (P 4), bYr Γ (p 5) (P 5)] := hD
  refine lv_aload_n zx zb dX8_forgetOldest_0 rfl (lv_at hl 0 rfl) ?_
  refine g_get (v := .ref (s 1)) XX hP 0 0 rfl rfl rfl iwX8 2 (by decide) fl_X8_18 rfl dX8_forgetOldest_1 ?_
  refine lv_iconst (v := nI 0) zx zb dX8_forgetOldest_4 (by decide) ?_
  refine g_aald (i := 0) (v := p 0 0) XX hP 0 1 5 rfl rfl rfl (by decide) (by decide) rfl dX8_forgetOldest_5 ?_
  refine lv_astore_n (lv' := [(1, .ref (p 0 0)), (0, .ref (s 0))]) zx zb dX8_forgetOldest_6 rfl hl (by decide) rfl (fun ls hl => ?_)
  refine lv_iconst (v := nI 1) zx zb dX8_forgetOldest_7 (by decide) ?_
  refine lv_istore_n (lv' := [(2, .int (nI 1)), (1, .ref (p 0 0)), (0, .ref (s 0))]) zx zb dX8_forgetOldest_8 rfl hl (by decide) rfl (fun ls hl => ?_)
  refine lv_iload_n zx zb dX8_forgetOldest_9 rfl (lv_at hl 0 rfl) ?_
  refine lv_bipush (v := nI 6) zx zb dX8_forgetOldest_10 (by decide) ?_
  refine lv_icmp_ge (tgt := 35) zx zb dX8_forgetOldest_12 (by decide) (fun c_12 => ?_) (fun c_12 => ?_)
  · exact absurd c_12 (by decide)
  · clear c_12
    refine lv_aload_n zx zb dX8_forgetOldest_15 rfl (lv_at hl 2 rfl) ?_
    refine g_get (v := .ref (s 1)) XX hP 0 0 rfl rfl rfl iwX8 2 (by decide) fl_X8_18 rfl dX8_forgetOldest_16 ?_
    refine lv_iload_n zx zb dX8_forgetOldest_19 rfl (lv_at hl 0 rfl) ?_
    refine lv_iconst (v := nI 1) zx zb dX8_forgetOldest_20 (by decide) ?_
    refine lv_isub zx zb dX8_forgetOldest_21 ?_
    refine g_top (y := nI 0) (pk_sub (by decide)) ?_
    refine lv_aload_n zx zb dX8_forgetOldest_22 rfl (lv_at hl 2 rfl) ?_
    refine g_get (v := .ref (s 1)) XX hP 0 0 rfl rfl rfl iwX8 2 (by decide) fl_X8_18 rfl dX8_forgetOldest_23 ?_
    refine lv_iload_n zx zb dX8_forgetOldest_26 rfl (lv_at hl 0 rfl) ?_
    refine g_aald (i := 1) (v := p 1 0) XX hP 0 1 5 rfl rfl rfl (by decide) (by decide) rfl dX8_forgetOldest_27 ?_
    refine g_aastN (i := 0) (blk' := bSr Γ s c y (6, va_up (fun j => some (p j 0)) 0 (some (p 1 0)))) (bs' := [bSr Γ s c y (6, va_up (fun j => some (p j 0)) 0 (some (p 1 0))), bYr Γ (p 0) (P 0), bYr Γ (p 1) (P 1), bYr Γ (p 2) (P 2), bYr Γ (p 3) (P 3), bYr Γ (p 4) (P 4), bYr Γ (p 5) (P 5)]) XX hP hD hS 0 1 5 2 0 rfl rfl rfl rfl rfl rfl (by decide) (by decide) rfl rfl dX8_forgetOldest_28 (fun H locs hP hD hS => ?_)
    refine lv_iinc (v := nI 2) (lv' := [(2, .int (nI 2)), (1, .ref (p 0 0)), (0, .ref (s 0))]) zx zb dX8_forgetOldest_29 hl (k := 0) rfl (nI_inc _ 1) (by decide) rfl (fun ls hl => ?_)
    refine lv_goto (tgt := 9) zx zb dX8_forgetOldest_32 (by decide) ?_
    refine lv_iload_n zx zb dX8_forgetOldest_9 rfl (lv_at hl 0 rfl) ?_
    refine lv_bipush (v := nI 6) zx zb dX8_forgetOldest_10 (by decide) ?_
    refine lv_icmp_ge (tgt := 35) zx zb dX8_forgetOldest_12 (by decide) (fun c_12 => ?_) (fun c_12 => ?_)
    · exact absurd c_12 (by decide)
    · clear c_12
      refine lv_aload_n zx zb dX8_forgetOldest_15 rfl (lv_at hl 2 rfl) ?_
      refine g_get (v := .ref (s 1)) XX hP 0 0 rfl rfl rfl iwX8 2 (by decide) fl_X8_18 rfl dX8_forgetOldest_16 ?_
      refine lv_iload_n zx zb dX8_forgetOldest_19 rfl (lv_at hl 0 rfl) ?_
      refine lv_iconst (v := nI 1) zx zb dX8_forgetOldest_20 (by decide) ?_
      refine lv_isub zx zb dX8_forgetOldest_21 ?_
      refine g_top (y := nI 1) (pk_sub (by decide)) ?_
      refine lv_aload_n zx zb dX8_forgetOldest_22 rfl (lv_at hl 2 rfl) ?_
      refine g_get (v := .ref (s 1)) XX hP 0 0 rfl rfl rfl iwX8 2 (by decide) fl_X8_18 rfl dX8_forgetOldest_23 ?_
      refine lv_iload_n zx zb dX8_forgetOldest_26 rfl (lv_at hl 0 rfl) ?_
      refine g_aald (i := 2) (v := p 2 0) XX hP 0 1 5 rfl rfl rfl (by decide) (by decide) rfl dX8_forgetOldest_27 ?_
      refine g_aastN (i := 1) (blk' := bSr Γ s c y (6, va_up (va_up (fun j => some (p j 0)) 0 (some (p 1 0))) 1 (some (p 2 0)))) (bs' := [bSr Γ s c y (6, va_up (va_up (fun j => some (p j 0)) 0 (some (p 1 0))) 1 (some (p 2 0))), bYr Γ (p 0) (P 0), bYr Γ (p 1) (P 1), bYr Γ (p 2) (P 2), bYr Γ (p 3) (P 3), bYr Γ (p 4) (P 4), bYr Γ (p 5) (P 5)]) XX hP hD hS 0 1 5 3 0 rfl rfl rfl rfl rfl rfl (by decide) (by decide) rfl rfl dX8_forgetOldest_28 (fun H locs hP hD hS => ?_)
      refine lv_iinc (v := nI 3) (lv' := [(2, .int (nI 3)), (1, .ref (p 0 0)), (0, .ref (s 0))]) zx zb dX8_forgetOldest_29 hl (k := 0) rfl (nI_inc _ 1) (by decide) rfl (fun ls hl => ?_)
      refine lv_goto (tgt := 9) zx zb dX8_forgetOldest_32 (by decide) ?_
      refine lv_iload_n zx zb dX8_forgetOldest_9 rfl (lv_at hl 0 rfl) ?_
      refine lv_bipush (v := nI 6) zx zb dX8_forgetOldest_10 (by decide) ?_
      refine lv_icmp_ge (tgt := 35) zx zb dX8_forgetOldest_12 (by decide) (fun c_12 => ?_) (fun c_12 => ?_)
      · exact absurd c_12 (by decide)
      · clear c_12
        refine lv_aload_n zx zb dX8_forgetOldest_15 rfl (lv_at hl 2 rfl) ?_
        refine g_get (v := .ref (s 1)) XX hP 0 0 rfl rfl rfl iwX8 2 (by decide) fl_X8_18 rfl dX8_forgetOldest_16 ?_
        refine lv_iload_n zx zb dX8_forgetOldest_19 rfl (lv_at hl 0 rfl) ?_
        refine lv_iconst (v := nI 1) zx zb dX8_forgetOldest_20 (by decide) ?_
        refine lv_isub zx zb dX8_forgetOldest_21 ?_
        refine g_top (y := nI 2) (pk_sub (by decide)) ?_
        refine lv_aload_n zx zb dX8_forgetOldest_22 rfl (lv_at hl 2 rfl) ?_
        refine g_get (v := .ref (s 1)) XX hP 0 0 rfl rfl rfl iwX8 2 (by decide) fl_X8_18 rfl dX8_forgetOldest_23 ?_
        refine lv_iload_n zx zb dX8_forgetOldest_26 rfl (lv_at hl 0 rfl) ?_
        refine g_aald (i := 3) (v := p 3 0) XX hP 0 1 5 rfl rfl rfl (by decide) (by decide) rfl dX8_forgetOldest_27 ?_
        refine g_aastN (i := 2) (blk' := bSr Γ s c y (6, va_up (va_up (va_up (fun j => some (p j 0)) 0 (some (p 1 0))) 1 (some (p 2 0))) 2 (some (p 3 0)))) (bs' := [bSr Γ s c y (6, va_up (va_up (va_up (fun j => some (p j 0)) 0 (some (p 1 0))) 1 (some (p 2 0))) 2 (some (p 3 0))), bYr Γ (p 0) (P 0), bYr Γ (p 1) (P 1), bYr Γ (p 2) (P 2), bYr Γ (p 3) (P 3), bYr Γ (p 4) (P 4), bYr Γ (p 5) (P 5)]) XX hP hD hS 0 1 5 4 0 rfl rfl rfl rfl rfl rfl (by decide) (by decide) rfl rfl dX8_forgetOldest_28 (fun H locs hP hD hS => ?_)
        refine lv_iinc (v := nI 4) (lv' := [(2, .int (nI 4)), (1, .ref (p 0 0)), (0, .ref (s 0))]) zx zb dX8_forgetOldest_29 hl (k := 0) rfl (nI_inc _ 1) (by decide) rfl (fun ls hl => ?_)
        refine lv_goto (tgt := 9) zx zb dX8_forgetOldest_32 (by decide) ?_
        refine lv_iload_n zx zb dX8_forgetOldest_9 rfl (lv_at hl 0 rfl) ?_
        refine lv_bipush (v := nI 6) zx zb dX8_forgetOldest_10 (by decide) ?_
        refine lv_icmp_ge (tgt := 35) zx zb dX8_forgetOldest_12 (by decide) (fun c_12 => ?_) (fun c_12 => ?_)
        · exact absurd c_12 (by decide)
        · clear c_12
          refine lv_aload_n zx zb dX8_forgetOldest_15 rfl (lv_at hl 2 rfl) ?_
          refine g_get (v := .ref (s 1)) XX hP 0 0 rfl rfl rfl iwX8 2 (by decide) fl_X8_18 rfl dX8_forgetOldest_16 ?_
          refine lv_iload_n zx zb dX8_forgetOldest_19 rfl (lv_at hl 0 rfl) ?_
          refine lv_iconst (v := nI 1) zx zb dX8_forgetOldest_20 (by decide) ?_
          refine lv_isub zx zb dX8_forgetOldest_21 ?_
          refine g_top (y := nI 3) (pk_sub (by decide)) ?_
          refine lv_aload_n zx zb dX8_forgetOldest_22 rfl (lv_at hl 2 rfl) ?_
          refine g_get (v := .ref (s 1)) XX hP 0 0 rfl rfl rfl iwX8 2 (by decide) fl_X8_18 rfl dX8_forgetOldest_23 ?_
          refine lv_iload_n zx zb dX8_forgetOldest_26 rfl (lv_at hl 0 rfl) ?_
          refine g_aald (i := 4) (v := p 4 0) XX hP 0 1 5 rfl rfl rfl (by decide) (by decide) rfl dX8_forgetOldest_27 ?_
          refine g_aastN (i := 3) (blk' := bSr Γ s c y (6, va_up (va_up (va_up (va_up (fun j => some (p j 0)) 0 (some (p 1 0))) 1 (some (p 2 0))) 2 (some (p 3 0))) 3 (some (p 4 0)))) (bs' := [bSr Γ s c y (6, va_up (va_up (va_up (va_up (fun j => some (p j 0)) 0 (some (p 1 0))) 1 (some (p 2 0))) 2 (some (p 3 0))) 3 (some (p 4 0))), bYr Γ (p 0) (P 0), bYr Γ (p 1) (P 1), bYr Γ (p 2) (P 2), bYr Γ (p 3) (P 3), bYr Γ (p 4) (P 4), bYr Γ (p 5) (P 5)]) XX hP hD hS 0 1 5 5 0 rfl rfl rfl rfl rfl rfl (by decide) (by decide) rfl rfl dX8_forgetOldest_28 (fun H locs hP hD hS => ?_)
          refine lv_iinc (v := nI 5) (lv' := [(2, .int (nI 5)), (1, .ref (p 0 0)), (0, .ref (s 0))]) zx zb dX8_forgetOldest_29 hl (k := 0) rfl (nI_inc _ 1) (by decide) rfl (fun ls hl => ?_)
          refine lv_goto (tgt := 9) zx zb dX8_forgetOldest_32 (by decide) ?_
          refine lv_iload_n zx zb dX8_forgetOldest_9 rfl (lv_at hl 0 rfl) ?_
          refine lv_bipush (v := nI 6) zx zb dX8_forgetOldest_10 (by decide) ?_
          refine lv_icmp_ge (tgt := 35) zx zb dX8_forgetOldest_12 (by decide) (fun c_12 => ?_) (fun c_12 => ?_)
          · exact absurd c_12 (by decide)
          · clear c_12
            refine lv_aload_n zx zb dX8_forgetOldest_15 rfl (lv_at hl 2 rfl) ?_
            refine g_get (v := .ref (s 1)) XX hP 0 0 rfl rfl rfl iwX8 2 (by decide) fl_X8_18 rfl dX8_forgetOldest_16 ?_
            refine lv_iload_n zx zb dX8_forgetOldest_19 rfl (lv_at hl 0 rfl) ?_
            refine lv_iconst (v := nI 1) zx zb dX8_forgetOldest_20 (by decide) ?_
            refine lv_isub zx zb dX8_forgetOldest_21 ?_
            refine g_top (y := nI 4) (pk_sub (by decide)) ?_
            refine lv_aload_n zx zb dX8_forgetOldest_22 rfl (lv_at hl 2 rfl) ?_
            refine g_get (v := .ref (s 1)) XX hP 0 0 rfl rfl rfl iwX8 2 (by decide) fl_X8_18 rfl dX8_forgetOldest_23 ?_
            refine lv_iload_n zx zb dX8_forgetOldest_26 rfl (lv_at hl 0 rfl) ?_
            refine g_aald (i := 5) (v := p 5 0) XX hP 0 1 5 rfl rfl rfl (by decide) (by decide) rfl dX8_forgetOldest_27 ?_
            refine g_aastN (i := 4) (blk' := bSr Γ s c y (6, va_up (va_up (va_up (va_up (va_up (fun j => some (p j 0)) 0 (some (p 1 0))) 1 (some (p 2 0))) 2 (some (p 3 0))) 3 (some (p 4 0))) 4 (some (p 5 0)))) (bs' := [bSr Γ s c y (6, va_up (va_up (va_up (va_up (va_up (fun j => some (p j 0)) 0 (some (p 1 0))) 1 (some (p 2 0))) 2 (some (p 3 0))) 3 (some (p 4 0))) 4 (some (p 5 0))), bYr Γ (p 0) (P 0), bYr Γ (p 1) (P 1), bYr Γ (p 2) (P 2), bYr Γ (p 3) (P 3), bYr Γ (p 4) (P 4), bYr Γ (p 5) (P 5)]) XX hP hD hS 0 1 5 6 0 rfl rfl rfl rfl rfl rfl (by decide) (by decide) rfl rfl dX8_forgetOldest_28 (fun H locs hP hD hS => ?_)
            refine lv_iinc (v := nI 6) (lv' := [(2, .int (nI 6)), (1, .ref (p 0 0)), (0, .ref (s 0))]) zx zb dX8_forgetOldest_29 hl (k := 0) rfl (nI_inc _ 1) (by decide) rfl (fun ls hl => ?_)
            refine lv_goto (tgt := 9) zx zb dX8_forgetOldest_32 (by decide) ?_
            refine lv_iload_n zx zb dX8_forgetOldest_9 rfl (lv_at hl 0 rfl) ?_
            refine lv_bipush (v := nI 6) zx zb dX8_forgetOldest_10 (by decide) ?_
            refine lv_icmp_ge (tgt := 35) zx zb dX8_forgetOldest_12 (by decide) (fun c_12 => ?_) (fun c_12 => ?_)
            · clear c_12
              refine lv_aload_n zx zb dX8_forgetOldest_35 rfl (lv_at hl 2 rfl) ?_
              refine g_get (v := .ref (s 1)) XX hP 0 0 rfl rfl rfl iwX8 2 (by decide) fl_X8_18 rfl dX8_forgetOldest_36 ?_
              refine lv_iconst (v := nI 5) zx zb dX8_forgetOldest_39 (by decide) ?_
              refine lv_aload_n zx zb dX8_forgetOldest_40 rfl (lv_at hl 1 rfl) ?_
              refine g_aastN (i := 5) (blk' := bSr Γ s c y (6, va_up (va_up (va_up (va_up (va_up (va_up (fun j => some (p j 0)) 0 (some (p 1 0))) 1 (some (p 2 0))) 2 (some (p 3 0))) 3 (some (p 4 0))) 4 (some (p 5 0))) 5 (some (p 0 0)))) (bs' := [bSr Γ s c y (6, va_up (va_up (va_up (va_up (va_up (va_up (fun j => some (p j 0)) 0 (some (p 1 0))) 1 (some (p 2 0))) 2 (some (p 3 0))) 3 (some (p 4 0))) 4 (some (p 5 0))) 5 (some (p 0 0))), bYr Γ (p 0) (P 0), bYr Γ (p 1) (P 1), bYr Γ (p 2) (P 2), bYr Γ (p 3) (P 3), bYr Γ (p 4) (P 4), bYr Γ (p 5) (P 5)]) XX hP hD hS 0 1 5 1 0 rfl rfl rfl rfl rfl rfl (by decide) (by decide) rfl rfl dX8_forgetOldest_41 (fun H locs hP hD hS => ?_)
              refine lv_aload_n zx zb dX8_forgetOldest_42 rfl (lv_at hl 2 rfl) ?_
              refine lv_dup zx zb dX8_forgetOldest_43 rfl ?_
              refine g_get (v := .int (nI 6)) XX hP 0 0 rfl rfl rfl iwX8 3 (by decide) fl_X8_44 rfl dX8_forgetOldest_44 ?_
              refine lv_iconst (v := nI 1) zx zb dX8_forgetOldest_47 (by decide) ?_
              refine lv_isub zx zb dX8_forgetOldest_48 ?_
              refine g_top (y := nI 5) (pk_sub (by decide)) ?_
              refine g_put (v := .int (nI 5)) (blk' := bSr Γ s c y (5, va_up (va_up (va_up (va_up (va_up (va_up (fun j => some (p j 0)) 0 (some (p 1 0))) 1 (some (p 2 0))) 2 (some (p 3 0))) 3 (some (p 4 0))) 4 (some (p 5 0))) 5 (some (p 0 0)))) (bs' := [bSr Γ s c y (5, va_up (va_up (va_up (va_up (va_up (va_up (fun j => some (p j 0)) 0 (some (p 1 0))) 1 (some (p 2 0))) 2 (some (p 3 0))) 3 (some (p 4 0))) 4 (some (p 5 0))) 5 (some (p 0 0))), bYr Γ (p 0) (P 0), bYr Γ (p 1) (P 1), bYr Γ (p 2) (P 2), bYr Γ (p 3) (P 3), bYr Γ (p 4) (P 4), bYr Γ (p 5) (P 5)]) XX hP hD hS 0 0 rfl rfl rfl iwX8 tyX8_ok nmX8 3 (by decide) fl_X8_44 rfl rfl rfl (Nat.le_of_ble_eq_true rfl) rfl rfl rfl dX8_forgetOldest_49 (fun H locs hP hD hS => ?_)
              have hP := bl_congrQ hP 0 1 rfl (fun j => some (rotP p j 0)) rfl rot_ok rfl rfl
              have hD := bl_congrD hD 0 1 rfl (e := .inl (Γ.2 5, 6, .inr (.inr (.inr (.inr (fun j => some (rotP p j 0))))))) rfl rfl rfl
              exact fin _ _ () 52 _ dX8_forgetOldest_52 (trivial) hP hD hS
            · exact absurd c_12 (by decide)

set_option maxHeartbeats 4000000 in
set_option maxRecDepth 100000 in
theorem c_X8_keepPast_a (Γ : GG) (l : Launch) (s : Nat → Nat) (c : Nat → Nat) (y : Nat → Nat) (p : Nat → Nat → Nat) (pc : Nat) (Y : YrV) (P : Nat → YrV) (hpc : pc < 6) : Cv Γ l yX8_keepPast cX8_keepPast 1 none 2 47 0 0 [.ref (s 0)] [bSt Γ s c y p pc, bYr Γ y Y, bYr Γ (p 0) (P 0), bYr Γ (p 1) (P 1), bYr Γ (p 2) (P 2), bYr Γ (p 3) (P 3), bYr Γ (p 4) (P 4), bYr Γ (p 5) (P 5)] (fun (u : Nat) => u = pc + 1) (fun (u : Nat) => [bSt Γ s c y p u, bYr Γ y Y, bYr Γ (p 0) (va_up P pc Y 0), bYr Γ (p 1) (va_up P pc Y 1), bYr Γ (p 2) (va_up P pc Y 2), bYr Γ (p 3) (va_up P pc Y 3), bYr Γ (p 4) (va_up P pc Y 4), bYr Γ (p 5) (va_up P pc Y 5)]) := by
  refine Cv.of rfl (by decide) (Nat.le_of_ble_eq_true rfl) ?_
  intro pp ee ss mm bb me cd AA QQ XX hnm hA hP hD fin ls hl
  obtain ⟨zx, zb, hml, hown, hts, hK⟩ := id XX
  have hS : va_S AA ss.heap ss.heap [] := va_S.rf
  have hl : lv_has ls 1 [(0, .ref (s 0))] := hl
  refine lv_aload_n zx zb dX8_keepPast_0 rfl (lv_at hl 0 rfl) ?_
  refine g_get (v := .int (nI pc)) XX hP 0 0 rfl rfl rfl iwX8 3 (by decide) fl_X8_44 rfl dX8_keepPast_1 ?_
  refine lv_bipush (v := nI 6) zx zb dX8_keepPast_4 (by decide) ?_
  refine lv_icmp_ne (tgt := 13) zx zb dX8_keepPast_6 (by decide) (fun c_6 => ?_) (fun c_6 => ?_)
  · have c_6 : ¬ (pc = 6) := fun h => c_6 ((nI_eq (a := pc) (b := 6) (by omega) (by omega)).mpr h)
    refine lv_aload_n zx zb dX8_keepPast_13 rfl (lv_at hl 0 rfl) ?_
    refine g_get (v := .ref (s 1)) XX hP 0 0 rfl rfl rfl iwX8 2 (by decide) fl_X8_18 rfl dX8_keepPast_14 ?_
    refine lv_aload_n zx zb dX8_keepPast_17 rfl (lv_at hl 0 rfl) ?_
    refine g_get (v := .int (nI pc)) XX hP 0 0 rfl rfl rfl iwX8 3 (by decide) fl_X8_44 rfl dX8_keepPast_18 ?_
    rcases (show pc = 0 ∨ pc = 1 ∨ pc = 2 ∨ pc = 3 ∨ pc = 4 ∨ pc = 5 by omega) with hsp | hsp | hsp | hsp | hsp | hsp
    · subst hsp
      refine g_aald (i := 0) (v := p 0 0) XX hP 0 1 5 rfl rfl rfl (by decide) (by decide) rfl dX8_keepPast_21 ?_
      refine lv_aload_n zx zb dX8_keepPast_22 rfl (lv_at hl 0 rfl) ?_
      refine g_get (v := .ref (y 0)) XX hP 0 0 rfl rfl rfl iwX8 1 (by decide) fl_X8_12 rfl dX8_keepPast_23 ?_
      refine call_Vv (As := [.ref (y 0)]) (rest := []) XX cv_X8_41 (c_X10_copyOf Γ l (p 0) (P 0) y Y ) hP hD hS hA [2, 1] (by decide) rfl (fun _ => rfl) 2 0 rfl rfl rfl rfl hl.1 rfl ⟨⟨by decide, by decide⟩, by decide, by decide⟩ (Nat.le_of_ble_eq_true rfl) dX8_keepPast_26 (fun u H locs hw hP hD hS => ?_)
      have hw := hw.symm
      subst hw
      have hP : bP Γ [bSt Γ s c y p 0, bYr Γ y Y, bYr Γ (p 0) Y, bYr Γ (p 1) (P 1), bYr Γ (p 2) (P 2), bYr Γ (p 3) (P 3), bYr Γ (p 4) (P 4), bYr Γ (p 5) (P 5)] H := hP
      have hD : bD AA [bSt Γ s c y p 0, bYr Γ y Y, bYr Γ (p 0) Y, bYr Γ (p 1) (P 1), bYr Γ (p 2) (P 2), bYr Γ (p 3) (P 3), bYr Γ (p 4) (P 4), bYr Γ (p 5) (P 5)] := hD
      refine lv_aload_n zx zb dX8_keepPast_29 rfl (lv_at hl 0 rfl) ?_
      refine lv_dup zx zb dX8_keepPast_30 rfl ?_
      refine g_get (v := .int (nI 0)) XX hP 0 0 rfl rfl rfl iwX8 3 (by decide) fl_X8_44 rfl dX8_keepPast_31 ?_
      refine lv_iconst (v := nI 1) zx zb dX8_keepPast_34 (by decide) ?_
      refine lv_iadd zx zb dX8_keepPast_35 ?_
      refine g_top (y := nI 1) (nI_add 0 1) ?_
      refine g_put (v := .int (nI 1)) (blk' := bSt Γ s c y p 1) (bs' := [bSt Γ s c y p 1, bYr Γ y Y, bYr Γ (p 0) Y, bYr Γ (p 1) (P 1), bYr Γ (p 2) (P 2), bYr Γ (p 3) (P 3), bYr Γ (p 4) (P 4), bYr Γ (p 5) (P 5)]) XX hP hD hS 0 0 rfl rfl rfl iwX8 tyX8_ok nmX8 3 (by decide) fl_X8_44 rfl rfl rfl (Nat.le_of_ble_eq_true rfl) rfl rfl rfl dX8_keepPast_36 (fun H locs hP hD hS => ?_)
      exact fin _ _ 1 39 _ dX8_keepPast_39 (rfl) hP hD hS
    · subst hsp
      refine g_aald (i := 1) (v := p 1 0) XX hP 0 1 5 rfl rfl rfl (by decide) (by decide) rfl dX8_keepPast_21 ?_
      refine lv_aload_n zx zb dX8_keepPast_22 rfl (lv_at hl 0 rfl) ?_
      refine g_get (v := .ref (y 0)) XX hP 0 0 rfl rfl rfl iwX8 1 (by decide) fl_X8_12 rfl dX8_keepPast_23 ?_
      refine call_Vv (As := [.ref (y 0)]) (rest := []) XX cv_X8_41 (c_X10_copyOf Γ l (p 1) (P 1) y Y ) hP hD hS hA [3, 1] (by decide) rfl (fun _ => rfl) 3 0 rfl rfl rfl rfl hl.1 rfl ⟨⟨by decide, by decide⟩, by decide, by decide⟩ (Nat.le_of_ble_eq_true rfl) dX8_keepPast_26 (fun u H locs hw hP hD hS => ?_)
      have hw := hw.symm
      subst hw
      have hP : bP Γ [bSt Γ s c y p 1, bYr Γ y Y, bYr Γ (p 0) (P 0), bYr Γ (p 1) Y, bYr Γ (p 2) (P 2), bYr Γ (p 3) (P 3), bYr Γ (p 4) (P 4), bYr Γ (p 5) (P 5)] H := hP
      have hD : bD AA [bSt Γ s c y p 1, bYr Γ y Y, bYr Γ (p 0) (P 0), bYr Γ (p 1) Y, bYr Γ (p 2) (P 2), bYr Γ (p 3) (P 3), bYr Γ (p 4) (P 4), bYr Γ (p 5) (P 5)] := hD
      refine lv_aload_n zx zb dX8_keepPast_29 rfl (lv_at hl 0 rfl) ?_
      refine lv_dup zx zb dX8_keepPast_30 rfl ?_
      refine g_get (v := .int (nI 1)) XX hP 0 0 rfl rfl rfl iwX8 3 (by decide) fl_X8_44 rfl dX8_keepPast_31 ?_
      refine lv_iconst (v := nI 1) zx zb dX8_keepPast_34 (by decide) ?_
      refine lv_iadd zx zb dX8_keepPast_35 ?_
      refine g_top (y := nI 2) (nI_add 1 1) ?_
      refine g_put (v := .int (nI 2)) (blk' := bSt Γ s c y p 2) (bs' := [bSt Γ s c y p 2, bYr Γ y Y, bYr Γ (p 0) (P 0), bYr Γ (p 1) Y, bYr Γ (p 2) (P 2), bYr Γ (p 3) (P 3), bYr Γ (p 4) (P 4), bYr Γ (p 5) (P 5)]) XX hP hD hS 0 0 rfl rfl rfl iwX8 tyX8_ok nmX8 3 (by decide) fl_X8_44 rfl rfl rfl (Nat.le_of_ble_eq_true rfl) rfl rfl rfl dX8_keepPast_36 (fun H locs hP hD hS => ?_)
      exact fin _ _ 2 39 _ dX8_keepPast_39 (rfl) hP hD hS
    · subst hsp
      refine g_aald (i := 2) (v := p 2 0) XX hP 0 1 5 rfl rfl rfl (by decide) (by decide) rfl dX8_keepPast_21 ?_
      refine lv_aload_n zx zb dX8_keepPast_22 rfl (lv_at hl 0 rfl) ?_
      refine g_get (v := .ref (y 0)) XX hP 0 0 rfl rfl rfl iwX8 1 (by decide) fl_X8_12 rfl dX8_keepPast_23 ?_
      refine call_Vv (As := [.ref (y 0)]) (rest := []) XX cv_X8_41 (c_X10_copyOf Γ l (p 2) (P 2) y Y ) hP hD hS hA [4, 1] (by decide) rfl (fun _ => rfl) 4 0 rfl rfl rfl rfl hl.1 rfl ⟨⟨by decide, by decide⟩, by decide, by decide⟩ (Nat.le_of_ble_eq_true rfl) dX8_keepPast_26 (fun u H locs hw hP hD hS => ?_)
      have hw := hw.symm
      subst hw
      have hP : bP Γ [bSt Γ s c y p 2, bYr Γ y Y, bYr Γ (p 0) (P 0), bYr Γ (p 1) (P 1), bYr Γ (p 2) Y, bYr Γ (p 3) (P 3), bYr Γ (p 4) (P 4), bYr Γ (p 5) (P 5)] H := hP
      have hD : bD AA [bSt Γ s c y p 2, bYr Γ y Y, bYr Γ (p 0) (P 0), bYr Γ (p 1) (P 1), bYr Γ (p 2) Y, bYr Γ (p 3) (P 3), bYr Γ (p 4) (P 4), bYr Γ (p 5) (P 5)] := hD
      refine lv_aload_n zx zb dX8_keepPast_29 rfl (lv_at hl 0 rfl) ?_
      refine lv_dup zx zb dX8_keepPast_30 rfl ?_
      refine g_get (v := .int (nI 2)) XX hP 0 0 rfl rfl rfl iwX8 3 (by decide) fl_X8_44 rfl dX8_keepPast_31 ?_
      refine lv_iconst (v := nI 1) zx zb dX8_keepPast_34 (by decide) ?_
      refine lv_iadd zx zb dX8_keepPast_35 ?_
      refine g_top (y := nI 3) (nI_add 2 1) ?_
      refine g_put (v := .int (nI 3)) (blk' := bSt Γ s c y p 3) (bs' := [bSt Γ s c y p 3, bYr Γ y Y, bYr Γ (p 0) (P 0), bYr Γ (p 1) (P 1), bYr Γ (p 2) Y, bYr Γ (p 3) (P 3), bYr Γ (p 4) (P 4), bYr Γ (p 5) (P 5)]) XX hP hD hS 0 0 rfl rfl rfl iwX8 tyX8_ok nmX8 3 (by decide) fl_X8_44 rfl rfl rfl (Nat.le_of_ble_eq_true rfl) rfl rfl rfl dX8_keepPast_36 (fun H locs hP hD hS => ?_)
      exact fin _ _ 3 39 _ dX8_keepPast_39 (rfl) hP hD hS
    · subst hsp
      refine g_aald (i := 3) (v := p 3 0) XX hP 0 1 5 rfl rfl rfl (by decide) (by decide) rfl dX8_keepPast_21 ?_
      refine lv_aload_n zx zb dX8_keepPast_22 rfl (lv_at hl 0 rfl) ?_
      refine g_get (v := .ref (y 0)) XX hP 0 0 rfl rfl rfl iwX8 1 (by decide) fl_X8_12 rfl dX8_keepPast_23 ?_
      refine call_Vv (As := [.ref (y 0)]) (rest := []) XX cv_X8_41 (c_X10_copyOf Γ l (p 3) (P 3) y Y ) hP hD hS hA [5, 1] (by decide) rfl (fun _ => rfl) 5 0 rfl rfl rfl rfl hl.1 rfl ⟨⟨by decide, by decide⟩, by decide, by decide⟩ (Nat.le_of_ble_eq_true rfl) dX8_keepPast_26 (fun u H locs hw hP hD hS => ?_)
      have hw := hw.symm
      subst hw
      have hP : bP Γ [bSt Γ s c y p 3, bYr Γ y Y, bYr Γ (p 0) (P 0), bYr Γ (p 1) (P 1), bYr Γ (p 2) (P 2), bYr Γ (p 3) Y, bYr Γ (p 4) (P 4), bYr Γ (p 5) (P 5)] H := hP
      have hD : bD AA [bSt Γ s c y p 3, bYr Γ y Y, bYr Γ (p 0) (P 0), bYr Γ (p 1) (P 1), bYr Γ (p 2) (P 2), bYr Γ (p 3) Y, bYr Γ (p 4) (P 4), bYr Γ (p 5) (P 5)] := hD
      refine lv_aload_n zx zb dX8_keepPast_29 rfl (lv_at hl 0 rfl) ?_
      refine lv_dup zx zb dX8_keepPast_30 rfl ?_
      refine g_get (v := .int (nI 3)) XX hP 0 0 rfl rfl rfl iwX8 3 (by decide) fl_X8_44 rfl dX8_keepPast_31 ?_
      refine lv_iconst (v := nI 1) zx zb dX8_keepPast_34 (by decide) ?_
      refine lv_iadd zx zb dX8_keepPast_35 ?_
      refine g_top (y := nI 4) (nI_add 3 1) ?_
      refine g_put (v := .int (nI 4)) (blk' := bSt Γ s c y p 4) (bs' := [bSt Γ s c y p 4, bYr Γ y Y, bYr Γ (p 0) (P 0), bYr Γ (p 1) (P 1), bYr Γ (p 2) (P 2), bYr Γ (p 3) Y, bYr Γ (p 4) (P 4), bYr Γ (p 5) (P 5)]) XX hP hD hS 0 0 rfl rfl rfl iwX8 tyX8_ok nmX8 3 (by decide) fl_X8_44 rfl rfl rfl (Nat.le_of_ble_eq_true rfl) rfl rfl rfl dX8_keepPast_36 (fun H locs hP hD hS => ?_)
      exact fin _ _ 4 39 _ dX8_keepPast_39 (rfl) hP hD hS
    · subst hsp
      refine g_aald (i := 4) (v := p 4 0) XX hP 0 1 5 rfl rfl rfl (by decide) (by decide) rfl dX8_keepPast_21 ?_
      refine lv_aload_n zx zb dX8_keepPast_22 rfl (lv_at hl 0 rfl) ?_
      refine g_get (v := .ref (y 0)) XX hP 0 0 rfl rfl rfl iwX8 1 (by decide) fl_X8_12 rfl dX8_keepPast_23 ?_
      refine call_Vv (As := [.ref (y 0)]) (rest := []) XX cv_X8_41 (c_X10_copyOf Γ l (p 4) (P 4) y Y ) hP hD hS hA [6, 1] (by decide) rfl (fun _ => rfl) 6 0 rfl rfl rfl rfl hl.1 rfl ⟨⟨by decide, by decide⟩, by decide, by decide⟩ (Nat.le_of_ble_eq_true rfl) dX8_keepPast_26 (fun u H locs hw hP hD hS => ?_)
      have hw := hw.symm
      subst hw
      have hP : bP Γ [bSt Γ s c y p 4, bYr Γ y Y, bYr Γ (p 0) (P 0), bYr Γ (p 1) (P 1), bYr Γ (p 2) (P 2), bYr Γ (p 3) (P 3), bYr Γ (p 4) Y, bYr Γ (p 5) (P 5)] H := hP
      have hD : bD AA [bSt Γ s c y p 4, bYr Γ y Y, bYr Γ (p 0) (P 0), bYr Γ (p 1) (P 1), bYr Γ (p 2) (P 2), bYr Γ (p 3) (P 3), bYr Γ (p 4) Y, bYr Γ (p 5) (P 5)] := hD
      refine lv_aload_n zx zb dX8_keepPast_29 rfl (lv_at hl 0 rfl) ?_
      refine lv_dup zx zb dX8_keepPast_30 rfl ?_
      refine g_get (v := .int (nI 4)) XX hP 0 0 rfl rfl rfl iwX8 3 (by decide) fl_X8_44 rfl dX8_keepPast_31 ?_
      refine lv_iconst (v := nI 1) zx zb dX8_keepPast_34 (by decide) ?_
      refine lv_iadd zx zb dX8_keepPast_35 ?_
      refine g_top (y := nI 5) (nI_add 4 1) ?_
      refine g_put (v := .int (nI 5)) (blk' := bSt Γ s c y p 5) (bs' := [bSt Γ s c y p 5, bYr Γ y Y, bYr Γ (p 0) (P 0), bYr Γ (p 1) (P 1), bYr Γ (p 2) (P 2), bYr Γ (p 3) (P 3), bYr Γ (p 4) Y, bYr Γ (p 5) (P 5)]) XX hP hD hS 0 0 rfl rfl rfl iwX8 tyX8_ok nmX8 3 (by decide) fl_X8_44 rfl rfl rfl (Nat.le_of_ble_eq_true rfl) rfl rfl rfl dX8_keepPast_36 (fun H locs hP hD hS => ?_)
      exact fin _ _ 5 39 _ dX8_keepPast_39 (rfl) hP hD hS
    · subst hsp
      refine g_aald (i := 5) (v := p 5 0) XX hP 0 1 5 rfl rfl rfl (by decide) (by decide) rfl dX8_keepPast_21 ?_
      refine lv_aload_n zx zb dX8_keepPast_22 rfl (lv_at hl 0 rfl) ?_
      refine g_get (v := .ref (y 0)) XX hP 0 0 rfl rfl rfl iwX8 1 (by decide) fl_X8_12 rfl dX8_keepPast_23 ?_
      refine call_Vv (As := [.ref (y 0)]) (rest := []) XX cv_X8_41 (c_X10_copyOf Γ l (p 5) (P 5) y Y ) hP hD hS hA [7, 1] (by decide) rfl (fun _ => rfl) 7 0 rfl rfl rfl rfl hl.1 rfl ⟨⟨by decide, by decide⟩, by decide, by decide⟩ (Nat.le_of_ble_eq_true rfl) dX8_keepPast_26 (fun u H locs hw hP hD hS => ?_)
      have hw := hw.symm
      subst hw
      have hP : bP Γ [bSt Γ s c y p 5, bYr Γ y Y, bYr Γ (p 0) (P 0), bYr Γ (p 1) (P 1), bYr Γ (p 2) (P 2), bYr Γ (p 3) (P 3), bYr Γ (p 4) (P 4), bYr Γ (p 5) Y] H := hP
      have hD : bD AA [bSt Γ s c y p 5, bYr Γ y Y, bYr Γ (p 0) (P 0), bYr Γ (p 1) (P 1), bYr Γ (p 2) (P 2), bYr Γ (p 3) (P 3), bYr Γ (p 4) (P 4), bYr Γ (p 5) Y] := hD
      refine lv_aload_n zx zb dX8_keepPast_29 rfl (lv_at hl 0 rfl) ?_
      refine lv_dup zx zb dX8_keepPast_30 rfl ?_
      refine g_get (v := .int (nI 5)) XX hP 0 0 rfl rfl rfl iwX8 3 (by decide) fl_X8_44 rfl dX8_keepPast_31 ?_
      refine lv_iconst (v := nI 1) zx zb dX8_keepPast_34 (by decide) ?_
      refine lv_iadd zx zb dX8_keepPast_35 ?_
      refine g_top (y := nI 6) (nI_add 5 1) ?_
      refine g_put (v := .int (nI 6)) (blk' := bSt Γ s c y p 6) (bs' := [bSt Γ s c y p 6, bYr Γ y Y, bYr Γ (p 0) (P 0), bYr Γ (p 1) (P 1), bYr Γ (p 2) (P 2), bYr Γ (p 3) (P 3), bYr Γ (p 4) (P 4), bYr Γ (p 5) Y]) XX hP hD hS 0 0 rfl rfl rfl iwX8 tyX8_ok nmX8 3 (by decide) fl_X8_44 rfl rfl rfl (Nat.le_of_ble_eq_true rfl) rfl rfl rfl dX8_keepPast_36 (fun H locs hP hD hS => ?_)
      exact fin _ _ 6 39 _ dX8_keepPast_39 (rfl) hP hD hS
  · have c_6 : pc = 6 := (nI_eq (a := pc) (b := 6) (by omega) (by omega)).mp c_6
    exact absurd c_6 (by omega)

set_option maxHeartbeats 4000000 in
set_option maxRecDepth 100000 in
theorem c_X8_keepPast_b (Γ : GG) (l : Launch) (s : Nat → Nat) (c : Nat → Nat) (y : Nat → Nat) (p : Nat → Nat → Nat) (Y : YrV) (P : Nat → YrV)  : Cv Γ l yX8_keepPast cX8_keepPast 1 none 2 47 0 0 [.ref (s 0)] [bSt Γ s c y p 6, bYr Γ y Y, bYr Γ (p 0) (P 0), bYr Γ (p 1) (P 1), bYr Γ (p 2) (P 2), bYr Γ (p 3) (P 3), bYr Γ (p 4) (P 4), bYr Γ (p 5) (P 5)] (fun (u : Unit) => True) (fun (u : Unit) => [bSt Γ s c y (rotP p) 6, bYr Γ y Y, bYr Γ (rotP p 0) (va_up (rotV P) 5 Y 0), bYr Γ (rotP p 1) (va_up (rotV P) 5 Y 1), bYr Γ (rotP p 2) (va_up (rotV P) 5 Y 2), bYr Γ (rotP p 3) (va_up (rotV P) 5 Y 3), bYr Γ (rotP p 4) (va_up (rotV P) 5 Y 4), bYr Γ (rotP p 5) (va_up (rotV P) 5 Y 5)]) := by
  refine Cv.of rfl (by decide) (Nat.le_of_ble_eq_true rfl) ?_
  intro pp ee ss mm bb me cd AA QQ XX hnm hA hP hD fin ls hl
  obtain ⟨zx, zb, hml, hown, hts, hK⟩ := id XX
  have hS : va_S AA ss.heap ss.heap [] := va_S.rf
  have hl : lv_has ls 1 [(0, .ref (s 0))] := hl
  refine lv_aload_n zx zb dX8_keepPast_0 rfl (lv_at hl 0 rfl) ?_
  refine g_get (v := .int (nI 6)) XX hP 0 0 rfl rfl rfl iwX8 3 (by decide) fl_X8_44 rfl dX8_keepPast_1 ?_
  refine lv_bipush (v := nI 6) zx zb dX8_keepPast_4 (by decide) ?_
  refine lv_icmp_ne (tgt := 13) zx zb dX8_keepPast_6 (by decide) (fun c_6 => ?_) (fun c_6 => ?_)
  · exact absurd c_6 (by decide)
  · clear c_6
    refine lv_aload_n zx zb dX8_keepPast_9 rfl (lv_at hl 0 rfl) ?_
    refine call_Vv (As := []) (rest := []) XX cv_X8_48 (c_X8_forgetOldest Γ l s c y p P ) hP hD hS hA [0, 2, 3, 4, 5, 6, 7] (by decide) rfl (fun _ => rfl) 0 0 rfl rfl rfl rfl hl.1 rfl ⟨⟨by decide, by decide⟩, by decide, by decide⟩ (Nat.le_of_ble_eq_true rfl) dX8_keepPast_10 (fun u H locs hw hP hD hS => ?_)
    obtain ⟨u_10, rfl⟩ : ∃ z, z = u := ⟨_, rfl⟩
    have w_10 := hw
    have hP : bP Γ [bSt Γ s c y (rotP p) 5, bYr Γ y Y, bYr Γ (p 0) (P 0), bYr Γ (p 1) (P 1), bYr Γ (p 2) (P 2), bYr Γ (p 3) (P 3), bYr Γ (p 4) (P 4), bYr Γ (p 5) (P 5)] H := hP
    have hD : bD AA [bSt Γ s c y (rotP p) 5, bYr Γ y Y, bYr Γ (p 0) (P 0), bYr Γ (p 1) (P 1), bYr Γ (p 2) (P 2), bYr Γ (p 3) (P 3), bYr Γ (p 4) (P 4), bYr Γ (p 5) (P 5)] := hD
    refine lv_aload_n zx zb dX8_keepPast_13 rfl (lv_at hl 0 rfl) ?_
    refine g_get (v := .ref (s 1)) XX hP 0 0 rfl rfl rfl iwX8 2 (by decide) fl_X8_18 rfl dX8_keepPast_14 ?_
    refine lv_aload_n zx zb dX8_keepPast_17 rfl (lv_at hl 0 rfl) ?_
    refine g_get (v := .int (nI 5)) XX hP 0 0 rfl rfl rfl iwX8 3 (by decide) fl_X8_44 rfl dX8_keepPast_18 ?_
    refine g_aald (i := 5) (v := p 0 0) XX hP 0 1 5 rfl rfl rfl (by decide) (by decide) rfl dX8_keepPast_21 ?_
    refine lv_aload_n zx zb dX8_keepPast_22 rfl (lv_at hl 0 rfl) ?_
    refine g_get (v := .ref (y 0)) XX hP 0 0 rfl rfl rfl iwX8 1 (by decide) fl_X8_12 rfl dX8_keepPast_23 ?_
    refine call_Vv (As := [.ref (y 0)]) (rest := []) XX cv_X8_41 (c_X10_copyOf Γ l (p 0) (P 0) y Y ) hP hD hS hA [2, 1] (by decide) rfl (fun _ => rfl) 2 0 rfl rfl rfl rfl hl.1 rfl ⟨⟨by decide, by decide⟩, by decide, by decide⟩ (Nat.le_of_ble_eq_true rfl) dX8_keepPast_26 (fun u H locs hw hP hD hS => ?_)
    have hw := hw.symm
    subst hw
    have hP : bP Γ [bSt Γ s c y (rotP p) 5, bYr Γ y Y, bYr Γ (p 0) Y, bYr Γ (p 1) (P 1), bYr Γ (p 2) (P 2), bYr Γ (p 3) (P 3), bYr Γ (p 4) (P 4), bYr Γ (p 5) (P 5)] H := hP
    have hD : bD AA [bSt Γ s c y (rotP p) 5, bYr Γ y Y, bYr Γ (p 0) Y, bYr Γ (p 1) (P 1), bYr Γ (p 2) (P 2), bYr Γ (p 3) (P 3), bYr Γ (p 4) (P 4), bYr Γ (p 5) (P 5)] := hD
    refine lv_aload_n zx zb dX8_keepPast_29 rfl (lv_at hl 0 rfl) ?_
    refine lv_dup zx zb dX8_keepPast_30 rfl ?_
    refine g_get (v := .int (nI 5)) XX hP 0 0 rfl rfl rfl iwX8 3 (by decide) fl_X8_44 rfl dX8_keepPast_31 ?_
    refine lv_iconst (v := nI 1) zx zb dX8_keepPast_34 (by decide) ?_
    refine lv_iadd zx zb dX8_keepPast_35 ?_
    refine g_top (y := nI 6) (nI_add 5 1) ?_
    refine g_put (v := .int (nI 6)) (blk' := bSt Γ s c y (rotP p) 6) (bs' := [bSt Γ s c y (rotP p) 6, bYr Γ y Y, bYr Γ (p 0) Y, bYr Γ (p 1) (P 1), bYr Γ (p 2) (P 2), bYr Γ (p 3) (P 3), bYr Γ (p 4) (P 4), bYr Γ (p 5) (P 5)]) XX hP hD hS 0 0 rfl rfl rfl iwX8 tyX8_ok nmX8 3 (by decide) fl_X8_44 rfl rfl rfl (Nat.le_of_ble_eq_true rfl) rfl rfl rfl dX8_keepPast_36 (fun H locs hP hD hS => ?_)
    have hP := bl_pickP hP [0, 1, 3, 4, 5, 6, 7, 2] (bs' := [bSt Γ s c y (rotP p) 6, bYr Γ y Y, bYr Γ (rotP p 0) (va_up (rotV P) 5 Y 0), bYr Γ (rotP p 1) (va_up (rotV P) 5 Y 1), bYr Γ (rotP p 2) (va_up (rotV P) 5 Y 2), bYr Γ (rotP p 3) (va_up (rotV P) 5 Y 3), bYr Γ (rotP p 4) (va_up (rotV P) 5 Y 4), bYr Γ (rotP p 5) (va_up (rotV P) 5 Y 5)]) rfl
    have hD := bl_pickD hD [0, 1, 3, 4, 5, 6, 7, 2] rfl (bs' := [bSt Γ s c y (rotP p) 6, bYr Γ y Y, bYr Γ (rotP p 0) (va_up (rotV P) 5 Y 0), bYr Γ (rotP p 1) (va_up (rotV P) 5 Y 1), bYr Γ (rotP p 2) (va_up (rotV P) 5 Y 2), bYr Γ (rotP p 3) (va_up (rotV P) 5 Y 3), bYr Γ (rotP p 4) (va_up (rotV P) 5 Y 4), bYr Γ (rotP p 5) (va_up (rotV P) 5 Y 5)]) rfl
    exact fin _ _ () 39 _ dX8_keepPast_39 (trivial) hP hD hS

set_option maxHeartbeats 4000000 in
set_option maxRecDepth 100000 in
theorem c_X8_stepBack_0 (Γ : GG) (l : Launch) (s : Nat → Nat) (c : Nat → Nat) (y : Nat → Nat) (p : Nat → Nat → Nat)  : Ci Γ l yX8_stepBack cX8_stepBack 1 (some (.boolean)) 0 0 0 0 [.ref (s 0)] [bSt Γ s c y p 0] (fun (r : Int32) (u : Unit) => r = bI false) (fun (u : Unit) => [bSt Γ s c y p 0]) := by
  refine Ci.of (Or.inr rfl) (by decide) (Nat.le_of_ble_eq_true rfl) ?_
  intro pp ee ss mm bb me cd AA QQ XX hnm hA hP hD fin ls hl
  obtain ⟨zx, zb, hml, hown, hts, hK⟩ := id XX
  have hS : va_S AA ss.heap ss.heap [] := va_S.rf
  have hl : lv_has ls 1 [(0, .ref (s 0))] := hl
  refine lv_aload_n zx zb dX8_stepBack_0 rfl (lv_at hl 0 rfl) ?_
  refine g_get (v := .int (nI 0)) XX hP 0 0 rfl rfl rfl iwX8 3 (by decide) fl_X8_44 rfl dX8_stepBack_1 ?_
  refine lv_if_ne (tgt := 9) zx zb dX8_stepBack_4 (by decide) (fun c_4 => ?_) (fun c_4 => ?_)
  · exact absurd c_4 (by decide)
  · clear c_4
    refine lv_iconst (v := nI 0) zx zb dX8_stepBack_7 (by decide) ?_
    exact fin _ _ (nI 0) () 8 _ dX8_stepBack_8 (fun _ => nar0) (rfl) hP hD hS

set_option maxHeartbeats 4000000 in
set_option maxRecDepth 100000 in
theorem c_X8_stepBack_s (Γ : GG) (l : Launch) (s : Nat → Nat) (c : Nat → Nat) (y : Nat → Nat) (p : Nat → Nat → Nat) (pc : Nat) (Y : YrV) (P : Nat → YrV) (hpc : pc < 6) : Ci Γ l yX8_stepBack cX8_stepBack 1 (some (.boolean)) 2 47 0 0 [.ref (s 0)] [bSt Γ s c y p (pc + 1), bYr Γ y Y, bYr Γ (p 0) (P 0), bYr Γ (p 1) (P 1), bYr Γ (p 2) (P 2), bYr Γ (p 3) (P 3), bYr Γ (p 4) (P 4), bYr Γ (p 5) (P 5)] (fun (r : Int32) (u : YrV) => r = bI true ∧ u = P pc) (fun (u : YrV) => [bSt Γ s c y p pc, bYr Γ y u, bYr Γ (p 0) (P 0), bYr Γ (p 1) (P 1), bYr Γ (p 2) (P 2), bYr Γ (p 3) (P 3), bYr Γ (p 4) (P 4), bYr Γ (p 5) (P 5)]) := by
  refine Ci.of (Or.inr rfl) (by decide) (Nat.le_of_ble_eq_true rfl) ?_
  intro pp ee ss mm bb me cd AA QQ XX hnm hA hP hD fin ls hl
  obtain ⟨zx, zb, hml, hown, hts, hK⟩ := id XX
  have hS : va_S AA ss.heap ss.heap [] := va_S.rf
  have hl : lv_has ls 1 [(0, .ref (s 0))] := hl
  refine lv_aload_n zx zb dX8_stepBack_0 rfl (lv_at hl 0 rfl) ?_
  refine g_get (v := .int (nI ((pc + 1)))) XX hP 0 0 rfl rfl rfl iwX8 3 (by decide) fl_X8_44 rfl dX8_stepBack_1 ?_
  refine lv_if_ne (tgt := 9) zx zb dX8_stepBack_4 (by decide) (fun c_4 => ?_) (fun c_4 => ?_)
  · have c_4 : ¬ ((pc + 1) = 0) := fun h => c_4 ((nI_eq (a := (pc + 1)) (b := 0) (by omega) (by omega)).mpr h)
    refine lv_aload_n zx zb dX8_stepBack_9 rfl (lv_at hl 0 rfl) ?_
    refine lv_dup zx zb dX8_stepBack_10 rfl ?_
    refine g_get (v := .int (nI ((pc + 1)))) XX hP 0 0 rfl rfl rfl iwX8 3 (by decide) fl_X8_44 rfl dX8_stepBack_11 ?_
    refine lv_iconst (v := nI 1) zx zb dX8_stepBack_14 (by decide) ?_
    refine lv_isub zx zb dX8_stepBack_15 ?_
    refine g_top (y := (nI ((pc + 1))) - 1) rfl ?_
    refine g_top (y := nI pc) (nI_pred pc) ?_
    refine g_put (v := .int (nI pc)) (blk' := bSt Γ s c y p pc) (bs' := [bSt Γ s c y p pc, bYr Γ y Y, bYr Γ (p 0) (P 0), bYr Γ (p 1) (P 1), bYr Γ (p 2) (P 2), bYr Γ (p 3) (P 3), bYr Γ (p 4) (P 4), bYr Γ (p 5) (P 5)]) XX hP hD hS 0 0 rfl rfl rfl iwX8 tyX8_ok nmX8 3 (by decide) fl_X8_44 rfl rfl rfl (Nat.le_of_ble_eq_true rfl) rfl rfl rfl dX8_stepBack_16 (fun H locs hP hD hS => ?_)
    refine lv_aload_n zx zb dX8_stepBack_19 rfl (lv_at hl 0 rfl) ?_
    refine g_get (v := .ref (y 0)) XX hP 0 0 rfl rfl rfl iwX8 1 (by decide) fl_X8_12 rfl dX8_stepBack_20 ?_
    refine lv_aload_n zx zb dX8_stepBack_23 rfl (lv_at hl 0 rfl) ?_
    refine g_get (v := .ref (s 1)) XX hP 0 0 rfl rfl rfl iwX8 2 (by decide) fl_X8_18 rfl dX8_stepBack_24 ?_
    refine lv_aload_n zx zb dX8_stepBack_27 rfl (lv_at hl 0 rfl) ?_
    refine g_get (v := .int (nI pc)) XX hP 0 0 rfl rfl rfl iwX8 3 (by decide) fl_X8_44 rfl dX8_stepBack_28 ?_
    rcases (show pc = 0 ∨ pc = 1 ∨ pc = 2 ∨ pc = 3 ∨ pc = 4 ∨ pc = 5 by omega) with hsp | hsp | hsp | hsp | hsp | hsp
    · subst hsp
      refine g_aald (i := 0) (v := p 0 0) XX hP 0 1 5 rfl rfl rfl (by decide) (by decide) rfl dX8_stepBack_31 ?_
      refine call_Vv (As := [.ref (p 0 0)]) (rest := []) XX cv_X8_41 (c_X10_copyOf Γ l y Y (p 0) (P 0) ) hP hD hS hA [1, 2] (by decide) rfl (fun _ => rfl) 1 0 rfl rfl rfl rfl hl.1 rfl ⟨⟨by decide, by decide⟩, by decide, by decide⟩ (Nat.le_of_ble_eq_true rfl) dX8_stepBack_32 (fun u H locs hw hP hD hS => ?_)
      have hw := hw.symm
      subst hw
      have hP : bP Γ [bSt Γ s c y p 0, bYr Γ y (P 0), bYr Γ (p 0) (P 0), bYr Γ (p 1) (P 1), bYr Γ (p 2) (P 2), bYr Γ (p 3) (P 3), bYr Γ (p 4) (P 4), bYr Γ (p 5) (P 5)] H := hP
      have hD : bD AA [bSt Γ s c y p 0, bYr Γ y (P 0), bYr Γ (p 0) (P 0), bYr Γ (p 1) (P 1), bYr Γ (p 2) (P 2), bYr Γ (p 3) (P 3), bYr Γ (p 4) (P 4), bYr Γ (p 5) (P 5)] := hD
      refine lv_iconst (v := nI 1) zx zb dX8_stepBack_35 (by decide) ?_
      exact fin _ _ (nI 1) (P 0) 36 _ dX8_stepBack_36 (fun _ => nar1) ⟨(rfl), (rfl)⟩ hP hD hS
    · subst hsp
      refine g_aald (i := 1) (v := p 1 0) XX hP 0 1 5 rfl rfl rfl (by decide) (by decide) rfl dX8_stepBack_31 ?_
      refine call_Vv (As := [.ref (p 1 0)]) (rest := []) XX cv_X8_41 (c_X10_copyOf Γ l y Y (p 1) (P 1) ) hP hD hS hA [1, 3] (by decide) rfl (fun _ => rfl) 1 0 rfl rfl rfl rfl hl.1 rfl ⟨⟨by decide, by decide⟩, by decide, by decide⟩ (Nat.le_of_ble_eq_true rfl) dX8_stepBack_32 (fun u H locs hw hP hD hS => ?_)
      have hw := hw.symm
      subst hw
      have hP : bP Γ [bSt Γ s c y p 1, bYr Γ y (P 1), bYr Γ (p 0) (P 0), bYr Γ (p 1) (P 1), bYr Γ (p 2) (P 2), bYr Γ (p 3) (P 3), bYr Γ (p 4) (P 4), bYr Γ (p 5) (P 5)] H := hP
      have hD : bD AA [bSt Γ s c y p 1, bYr Γ y (P 1), bYr Γ (p 0) (P 0), bYr Γ (p 1) (P 1), bYr Γ (p 2) (P 2), bYr Γ (p 3) (P 3), bYr Γ (p 4) (P 4), bYr Γ (p 5) (P 5)] := hD
      refine lv_iconst (v := nI 1) zx zb dX8_stepBack_35 (by decide) ?_
      exact fin _ _ (nI 1) (P 1) 36 _ dX8_stepBack_36 (fun _ => nar1) ⟨(rfl), (rfl)⟩ hP hD hS
    · subst hsp
      refine g_aald (i := 2) (v := p 2 0) XX hP 0 1 5 rfl rfl rfl (by decide) (by decide) rfl dX8_stepBack_31 ?_
      refine call_Vv (As := [.ref (p 2 0)]) (rest := []) XX cv_X8_41 (c_X10_copyOf Γ l y Y (p 2) (P 2) ) hP hD hS hA [1, 4] (by decide) rfl (fun _ => rfl) 1 0 rfl rfl rfl rfl hl.1 rfl ⟨⟨by decide, by decide⟩, by decide, by decide⟩ (Nat.le_of_ble_eq_true rfl) dX8_stepBack_32 (fun u H locs hw hP hD hS => ?_)
      have hw := hw.symm
      subst hw
      have hP : bP Γ [bSt Γ s c y p 2, bYr Γ y (P 2), bYr Γ (p 0) (P 0), bYr Γ (p 1) (P 1), bYr Γ (p 2) (P 2), bYr Γ (p 3) (P 3), bYr Γ (p 4) (P 4), bYr Γ (p 5) (P 5)] H := hP
      have hD : bD AA [bSt Γ s c y p 2, bYr Γ y (P 2), bYr Γ (p 0) (P 0), bYr Γ (p 1) (P 1), bYr Γ (p 2) (P 2), bYr Γ (p 3) (P 3), bYr Γ (p 4) (P 4), bYr Γ (p 5) (P 5)] := hD
      refine lv_iconst (v := nI 1) zx zb dX8_stepBack_35 (by decide) ?_
      exact fin _ _ (nI 1) (P 2) 36 _ dX8_stepBack_36 (fun _ => nar1) ⟨(rfl), (rfl)⟩ hP hD hS
    · subst hsp
      refine g_aald (i := 3) (v := p 3 0) XX hP 0 1 5 rfl rfl rfl (by decide) (by decide) rfl dX8_stepBack_31 ?_
      refine call_Vv (As := [.ref (p 3 0)]) (rest := []) XX cv_X8_41 (c_X10_copyOf Γ l y Y (p 3) (P 3) ) hP hD hS hA [1, 5] (by decide) rfl (fun _ => rfl) 1 0 rfl rfl rfl rfl hl.1 rfl ⟨⟨by decide, by decide⟩, by decide, by decide⟩ (Nat.le_of_ble_eq_true rfl) dX8_stepBack_32 (fun u H locs hw hP hD hS => ?_)
      have hw := hw.symm
      subst hw
      have hP : bP Γ [bSt Γ s c y p 3, bYr Γ y (P 3), bYr Γ (p 0) (P 0), bYr Γ (p 1) (P 1), bYr Γ (p 2) (P 2), bYr Γ (p 3) (P 3), bYr Γ (p 4) (P 4), bYr Γ (p 5) (P 5)] H := hP
      have hD : bD AA [bSt Γ s c y p 3, bYr Γ y (P 3), bYr Γ (p 0) (P 0), bYr Γ (p 1) (P 1), bYr Γ (p 2) (P 2), bYr Γ (p 3) (P 3), bYr Γ (p 4) (P 4), bYr Γ (p 5) (P 5)] := hD
      refine lv_iconst (v := nI 1) zx zb dX8_stepBack_35 (by decide) ?_
      exact fin _ _ (nI 1) (P 3) 36 _ dX8_stepBack_36 (fun _ => nar1) ⟨(rfl), (rfl)⟩ hP hD hS
    · subst hsp
      refine g_aald (i := 4) (v := p 4 0) XX hP 0 1 5 rfl rfl rfl (by decide) (by decide) rfl dX8_stepBack_31 ?_
      refine call_Vv (As := [.ref (p 4 0)]) (rest := []) XX cv_X8_41 (c_X10_copyOf Γ l y Y (p 4) (P 4) ) hP hD hS hA [1, 6] (by decide) rfl (fun _ => rfl) 1 0 rfl rfl rfl rfl hl.1 rfl ⟨⟨by decide, by decide⟩, by decide, by decide⟩ (Nat.le_of_ble_eq_true rfl) dX8_stepBack_32 (fun u H locs hw hP hD hS => ?_)
      have hw := hw.symm
      subst hw
      have hP : bP Γ [bSt Γ s c y p 4, bYr Γ y (P 4), bYr Γ (p 0) (P 0), bYr Γ (p 1) (P 1), bYr Γ (p 2) (P 2), bYr Γ (p 3) (P 3), bYr Γ (p 4) (P 4), bYr Γ (p 5) (P 5)] H := hP
      have hD : bD AA [bSt Γ s c y p 4, bYr Γ y (P 4), bYr Γ (p 0) (P 0), bYr Γ (p 1) (P 1), bYr Γ (p 2) (P 2), bYr Γ (p 3) (P 3), bYr Γ (p 4) (P 4), bYr Γ (p 5) (P 5)] := hD
      refine lv_iconst (v := nI 1) zx zb dX8_stepBack_35 (by decide) ?_
      exact fin _ _ (nI 1) (P 4) 36 _ dX8_stepBack_36 (fun _ => nar1) ⟨(rfl), (rfl)⟩ hP hD hS
    · subst hsp
      refine g_aald (i := 5) (v := p 5 0) XX hP 0 1 5 rfl rfl rfl (by decide) (by decide) rfl dX8_stepBack_31 ?_
      refine call_Vv (As := [.ref (p 5 0)]) (rest := []) XX cv_X8_41 (c_X10_copyOf Γ l y Y (p 5) (P 5) ) hP hD hS hA [1, 7] (by decide) rfl (fun _ => rfl) 1 0 rfl rfl rfl rfl hl.1 rfl ⟨⟨by decide, by decide⟩, by decide, by decide⟩ (Nat.le_of_ble_eq_true rfl) dX8_stepBack_32 (fun u H locs hw hP hD hS => ?_)
      have hw := hw.symm
      subst hw
      have hP : bP Γ [bSt Γ s c y p 5, bYr Γ y (P 5), bYr Γ (p 0) (P 0), bYr Γ (p 1) (P 1), bYr Γ (p 2) (P 2), bYr Γ (p 3) (P 3), bYr Γ (p 4) (P 4), bYr Γ (p 5) (P 5)] H := hP
      have hD : bD AA [bSt Γ s c y p 5, bYr Γ y (P 5), bYr Γ (p 0) (P 0), bYr Γ (p 1) (P 1), bYr Γ (p 2) (P 2), bYr Γ (p 3) (P 3), bYr Γ (p 4) (P 4), bYr Γ (p 5) (P 5)] := hD
      refine lv_iconst (v := nI 1) zx zb dX8_stepBack_35 (by decide) ?_
      exact fin _ _ (nI 1) (P 5) 36 _ dX8_stepBack_36 (fun _ => nar1) ⟨(rfl), (rfl)⟩ hP hD hS
  · have c_4 : (pc + 1) = 0 := (nI_eq (a := (pc + 1)) (b := 0) (by omega) (by omega)).mp c_4
    exact absurd c_4 (by omega)

set_option maxHeartbeats 4000000 in
set_option maxRecDepth 100000 in
theorem c_X8_copyOf (Γ : GG) (l : Launch) (s : Nat → Nat) (c : Nat → Nat) (y : Nat → Nat) (p : Nat → Nat → Nat) (k : Nat → Nat) (pc : Nat) (C : CoV) (tr : Nat → TrV) (Y : YrV) (P : Nat → YrV) (s2 : Nat → Nat) (d : Nat → Nat) (z : Nat → Nat) (p2 : Nat → Nat → Nat) (pc2 : Nat) (E : CoV) (tr2 : Nat → TrV) (Z : YrV) (P2 : Nat → YrV) (htc : E.2.2.2.2.2.2.1 ≤ 6) (hpc : pc2 ≤ 6) : Cv Γ l yX8_copyOf cX8_copyOf 3 none 2 48 0 0 [.ref (s 0), .ref (s2 0)] [bSt Γ s c y p pc, bCo Γ c k C, bTs Γ c k tr, bYr Γ y Y, bYr Γ (p 0) (P 0), bYr Γ (p 1) (P 1), bYr Γ (p 2) (P 2), bYr Γ (p 3) (P 3), bYr Γ (p 4) (P 4), bYr Γ (p 5) (P 5), bSt Γ s2 d z p2 pc2, bCo Γ d k E, bTs Γ d k tr2, bYr Γ z Z, bYr Γ (p2 0) (P2 0), bYr Γ (p2 1) (P2 1), bYr Γ (p2 2) (P2 2), bYr Γ (p2 3) (P2 3), bYr Γ (p2 4) (P2 4), bYr Γ (p2 5) (P2 5)] (fun (u : Unit) => True) (fun (u : Unit) => [bSt Γ s c y p pc2, bCo Γ c k E, bTs Γ c k (trCpy tr2 tr (coTc E)), bYr Γ y Z, bYr Γ (p 0) (yCpy P2 P pc2 0), bYr Γ (p 1) (yCpy P2 P pc2 1), bYr Γ (p 2) (yCpy P2 P pc2 2), bYr Γ (p 3) (yCpy P2 P pc2 3), bYr Γ (p 4) (yCpy P2 P pc2 4), bYr Γ (p 5) (yCpy P2 P pc2 5), bSt Γ s2 d z p2 pc2, bCo Γ d k E, bTs Γ d k tr2, bYr Γ z Z, bYr Γ (p2 0) (P2 0), bYr Γ (p2 1) (P2 1), bYr Γ (p2 2) (P2 2), bYr Γ (p2 3) (P2 3), bYr Γ (p2 4) (P2 4), bYr Γ (p2 5) (P2 5)]) := by
  refine Cv.of rfl (by decide) (Nat.le_of_ble_eq_true rfl) ?_
  intro pp ee ss mm bb me cd AA QQ XX hnm hA hP hD fin ls hl
  obtain ⟨zx, zb, hml, hown, hts, hK⟩ := id XX
  have hS : va_S AA ss.heap ss.heap [] := va_S.rf
  have hl : lv_has ls 3 [(0, .ref (s 0)), (1, .ref (s2 0))] := hl
  refine lv_aload_n zx zb dX8_copyOf_0 rfl (lv_at hl 0 rfl) ?_
  refine g_get (v := .ref (c 0)) XX hP 0 0 rfl rfl rfl iwX8 0 (by decide) fl_X8_27 rfl dX8_copyOf_1 ?_
  refine lv_aload_n zx zb dX8_copyOf_4 rfl (lv_at hl 1 rfl) ?_
  refine g_get (v := .ref (d 0)) XX hP 10 0 rfl rfl rfl iwX8 0 (by decide) fl_X8_27 rfl dX8_copyOf_5 ?_
  refine call_Vv (As := [.ref (d 0)]) (rest := []) XX cv_X8_37 (c_X2_copyOf Γ l c k C tr d E tr2 (htc)) hP hD hS hA [1, 2, 11, 12] (by decide) rfl (fun _ => rfl) 1 0 rfl rfl rfl rfl hl.1 rfl ⟨⟨by decide, by decide⟩, by decide, by decide⟩ (Nat.le_of_ble_eq_true rfl) dX8_copyOf_8 (fun u H locs hw hP hD hS => ?_)
  have hw := hw.symm
  subst hw
  have hP : bP Γ [bSt Γ s c y p pc, bCo Γ c k ((E, trCpy tr2 tr (coTc E)).1), bTs Γ c k ((E, trCpy tr2 tr (coTc E)).2), bYr Γ y Y, bYr Γ (p 0) (P 0), bYr Γ (p 1) (P 1), bYr Γ (p 2) (P 2), bYr Γ (p 3) (P 3), bYr Γ (p 4) (P 4), bYr Γ (p 5) (P 5), bSt Γ s2 d z p2 pc2, bCo Γ d k E, bTs Γ d k tr2, bYr Γ z Z, bYr Γ (p2 0) (P2 0), bYr Γ (p2 1) (P2 1), bYr Γ (p2 2) (P2 2), bYr Γ (p2 3) (P2 3), bYr Γ (p2 4) (P2 4), bYr Γ (p2 5) (P2 5)] H := hP
  have hD : bD AA [bSt Γ s c y p pc, bCo Γ c k ((E, trCpy tr2 tr (coTc E)).1), bTs Γ c k ((E, trCpy tr2 tr (coTc E)).2), bYr Γ y Y, bYr Γ (p 0) (P 0), bYr Γ (p 1) (P 1), bYr Γ (p 2) (P 2), bYr Γ (p 3) (P 3), bYr Γ (p 4) (P 4), bYr Γ (p 5) (P 5), bSt Γ s2 d z p2 pc2, bCo Γ d k E, bTs Γ d k tr2, bYr Γ z Z, bYr Γ (p2 0) (P2 0), bYr Γ (p2 1) (P2 1), bYr Γ (p2 2) (P2 2), bYr Γ (p2 3) (P2 3), bYr Γ (p2 4) (P2 4), bYr Γ (p2 5) (P2 5)] := hD
  refine lv_aload_n zx zb dX8_copyOf_11 rfl (lv_at hl 0 rfl) ?_
  refine g_get (v := .ref (y 0)) XX hP 0 0 rfl rfl rfl iwX8 1 (by decide) fl_X8_12 rfl dX8_copyOf_12 ?_
  refine lv_aload_n zx zb dX8_copyOf_15 rfl (lv_at hl 1 rfl) ?_
  refine g_get (v := .ref (z 0)) XX hP 10 0 rfl rfl rfl iwX8 1 (by decide) fl_X8_12 rfl dX8_copyOf_16 ?_
  refine call_Vv (As := [.ref (z 0)]) (rest := []) XX cv_X8_41 (c_X10_copyOf Γ l y Y z Z ) hP hD hS hA [3, 13] (by decide) rfl (fun _ => rfl) 3 0 rfl rfl rfl rfl hl.1 rfl ⟨⟨by decide, by decide⟩, by decide, by decide⟩ (Nat.le_of_ble_eq_true rfl) dX8_copyOf_19 (fun u H locs hw hP hD hS => ?_)
  have hw := hw.symm
  subst hw
  have hP : bP Γ [bSt Γ s c y p pc, bCo Γ c k ((E, trCpy tr2 tr (coTc E)).1), bTs Γ c k ((E, trCpy tr2 tr (coTc E)).2), bYr Γ y Z, bYr Γ (p 0) (P 0), bYr Γ (p 1) (P 1), bYr Γ (p 2) (P 2), bYr Γ (p 3) (P 3), bYr Γ (p 4) (P 4), bYr Γ (p 5) (P 5), bSt Γ s2 d z p2 pc2, bCo Γ d k E, bTs Γ d k tr2, bYr Γ z Z, bYr Γ (p2 0) (P2 0), bYr Γ (p2 1) (P2 1), bYr Γ (p2 2) (P2 2), bYr Γ (p2 3) (P2 3), bYr Γ (p2 4) (P2 4), bYr Γ (p2 5) (P2 5)] H := hP
  have hD : bD AA [bSt Γ s c y p pc, bCo Γ c k ((E, trCpy tr2 tr (coTc E)).1), bTs Γ c k ((E, trCpy tr2 tr (coTc E)).2), bYr Γ y Z, bYr Γ (p 0) (P 0), bYr Γ (p 1) (P 1), bYr Γ (p 2) (P 2), bYr Γ (p 3) (P 3), bYr Γ (p 4) (P 4), bYr Γ (p 5) (P 5), bSt Γ s2 d z p2 pc2, bCo Γ d k E, bTs Γ d k tr2, bYr Γ z Z, bYr Γ (p2 0) (P2 0), bYr Γ (p2 1) (P2 1), bYr Γ (p2 2) (P2 2), bYr Γ (p2 3) (P2 3), bYr Γ (p2 4) (P2 4), bYr Γ (p2 5) (P2 5)] := hD
  refine lv_aload_n zx zb dX8_copyOf_22 rfl (lv_at hl 0 rfl) ?_
  refine lv_aload_n zx zb dX8_copyOf_23 rfl (lv_at hl 1 rfl) ?_
  refine g_get (v := .int (nI pc2)) XX hP 10 0 rfl rfl rfl iwX8 3 (by decide) fl_X8_44 rfl dX8_copyOf_24 ?_
  refine g_put (v := .int (nI pc2)) (blk' := bSt Γ s c y p pc2) (bs' := [bSt Γ s c y p pc2, bCo Γ c k ((E, trCpy tr2 tr (coTc E)).1), bTs Γ c k ((E, trCpy tr2 tr (coTc E)).2), bYr Γ y Z, bYr Γ (p 0) (P 0), bYr Γ (p 1) (P 1), bYr Γ (p 2) (P 2), bYr Γ (p 3) (P 3), bYr Γ (p 4) (P 4), bYr Γ (p 5) (P 5), bSt Γ s2 d z p2 pc2, bCo Γ d k E, bTs Γ d k tr2, bYr Γ z Z, bYr Γ (p2 0) (P2 0), bYr Γ (p2 1) (P2 1), bYr Γ (p2 2) (P2 2), bYr Γ (p2 3) (P2 3), bYr Γ (p2 4) (P2 4), bYr Γ (p2 5) (P2 5)]) XX hP hD hS 0 0 rfl rfl rfl iwX8 tyX8_ok nmX8 3 (by decide) fl_X8_44 rfl rfl rfl (Nat.le_of_ble_eq_true rfl) rfl rfl rfl dX8_copyOf_27 (fun H locs hP hD hS => ?_)
  refine lv_iconst (v := nI 0) zx zb dX8_copyOf_30 (by decide) ?_
  refine lv_istore_n (lv' := [(2, .int (nI 0)), (0, .ref (s 0)), (1, .ref (s2 0))]) zx zb dX8_copyOf_31 rfl hl (by decide) rfl (fun ls hl => ?_)
  have L32 : ∀ (nn : Nat) (i : Nat) (Q : Nat → YrV), (i ≤ pc2) → (Q = yCpy P2 P i) → pc2 - i < nn → ∀ (H : Heap) (locs : List Loc), bP Γ [bSt Γ s c y p pc2, bCo Γ c k ((E, trCpy tr2 tr (coTc E)).1), bTs Γ c k ((E, trCpy tr2 tr (coTc E)).2), bYr Γ y Z, bYr Γ (p 0) (Q 0), bYr Γ (p 1) (Q 1), bYr Γ (p 2) (Q 2), bYr Γ (p 3) (Q 3), bYr Γ (p 4) (Q 4), bYr Γ (p 5) (Q 5), bSt Γ s2 d z p2 pc2, bCo Γ d k E, bTs Γ d k tr2, bYr Γ z Z, bYr Γ (p2 0) (P2 0), bYr Γ (p2 1) (P2 1), bYr Γ (p2 2) (P2 2), bYr Γ (p2 3) (P2 3), bYr Γ (p2 4) (P2 4), bYr Γ (p2 5) (P2 5)] H → bD AA [bSt Γ s c y p pc2, bCo Γ c k ((E, trCpy tr2 tr (coTc E)).1), bTs Γ c k ((E, trCpy tr2 tr (coTc E)).2), bYr Γ y Z, bYr Γ (p 0) (Q 0), bYr Γ (p 1) (Q 1), bYr Γ (p 2) (Q 2), bYr Γ (p 3) (Q 3), bYr Γ (p 4) (Q 4), bYr Γ (p 5) (Q 5), bSt Γ s2 d z p2 pc2, bCo Γ d k E, bTs Γ d k tr2, bYr Γ z Z, bYr Γ (p2 0) (P2 0), bYr Γ (p2 1) (P2 1), bYr Γ (p2 2) (P2 2), bYr Γ (p2 3) (P2 3), bYr Γ (p2 4) (P2 4), bYr Γ (p2 5) (P2 5)] → va_S AA ss.heap H locs → ∀ (ls : Array Slot), lv_has ls 3 [(0, .ref (s 0)), (1, .ref (s2 0)), (2, .int (nI i))] → W pp l ee { frames := 2, cells := 0, slots := 0, locals := 48 } ss mm [.ref (s 0), .ref (s2 0)].toArray bb me cd H locs 0 0 QQ (F0 mm 32 ls []) := by
    intro nn
    induction nn with
    | zero => intro i Q hi hQ hm; exact absurd hm (Nat.not_lt_zero _)
    | succ nn ih32 =>
      intro i Q hi hQ hm32 H locs hP hD hS ls hl
      refine lv_iload_n zx zb dX8_copyOf_32 rfl (lv_at hl 2 rfl) ?_
      refine lv_aload_n zx zb dX8_copyOf_33 rfl (lv_at hl 0 rfl) ?_
      refine g_get (v := .int (nI pc2)) XX hP 0 0 rfl rfl rfl iwX8 3 (by decide) fl_X8_44 rfl dX8_copyOf_34 ?_
      refine lv_icmp_ge (tgt := 61) zx zb dX8_copyOf_37 (by decide) (fun c_37 => ?_) (fun c_37 => ?_)
      · have c_37 : pc2 ≤ i := (nI_leI (a := pc2) (b := i) (by omega) (by omega)).mp c_37
        have e : i = pc2 := by omega
        subst e
        subst hQ
        exact fin _ _ () 61 _ dX8_copyOf_61 (trivial) hP hD hS
      · have c_37 : ¬ (pc2 ≤ i) := fun h => c_37 ((nI_leI (a := pc2) (b := i) (by omega) (by omega)).mpr h)
        rcases (show i = 0 ∨ i = 1 ∨ i = 2 ∨ i = 3 ∨ i = 4 ∨ i = 5 by omega) with hsp | hsp | hsp | hsp | hsp | hsp
        · subst hsp
          refine lv_aload_n zx zb dX8_copyOf_40 rfl (lv_at hl 0 rfl) ?_
          refine g_get (v := .ref (s 1)) XX hP 0 0 rfl rfl rfl iwX8 2 (by decide) fl_X8_18 rfl dX8_copyOf_41 ?_
          refine lv_iload_n zx zb dX8_copyOf_44 rfl (lv_at hl 2 rfl) ?_
          refine g_aald (i := 0) (v := p 0 0) XX hP 0 1 5 rfl rfl rfl (by decide) (by decide) rfl dX8_copyOf_45 ?_
          refine lv_aload_n zx zb dX8_copyOf_46 rfl (lv_at hl 1 rfl) ?_
          refine g_get (v := .ref (s2 1)) XX hP 10 0 rfl rfl rfl iwX8 2 (by decide) fl_X8_18 rfl dX8_copyOf_47 ?_
          refine lv_iload_n zx zb dX8_copyOf_50 rfl (lv_at hl 2 rfl) ?_
          refine g_aald (i := 0) (v := p2 0 0) XX hP 10 1 5 rfl rfl rfl (by decide) (by decide) rfl dX8_copyOf_51 ?_
          refine call_Vv (As := [.ref (p2 0 0)]) (rest := []) XX cv_X8_41 (c_X10_copyOf Γ l (p 0) (Q 0) (p2 0) (P2 0) ) hP hD hS hA [4, 14] (by decide) rfl (fun _ => rfl) 4 0 rfl rfl rfl rfl hl.1 rfl ⟨⟨by decide, by decide⟩, by decide, by decide⟩ (Nat.le_of_ble_eq_true rfl) dX8_copyOf_52 (fun u H locs hw hP hD hS => ?_)
          have hw := hw.symm
          subst hw
          have hP : bP Γ [bSt Γ s c y p pc2, bCo Γ c k ((E, trCpy tr2 tr (coTc E)).1), bTs Γ c k ((E, trCpy tr2 tr (coTc E)).2), bYr Γ y Z, bYr Γ (p 0) (P2 0), bYr Γ (p 1) (Q 1), bYr Γ (p 2) (Q 2), bYr Γ (p 3) (Q 3), bYr Γ (p 4) (Q 4), bYr Γ (p 5) (Q 5), bSt Γ s2 d z p2 pc2, bCo Γ d k E, bTs Γ d k tr2, bYr Γ z Z, bYr Γ (p2 0) (P2 0), bYr Γ (p2 1) (P2 1), bYr Γ (p2 2) (P2 2), bYr Γ (p2 3) (P2 3), bYr Γ (p2 4) (P2 4), bYr Γ (p2 5) (P2 5)] H := hP
          have hD : bD AA [bSt Γ s c y p pc2, bCo Γ c k ((E, trCpy tr2 tr (coTc E)).1), bTs Γ c k ((E, trCpy tr2 tr (coTc E)).2), bYr Γ y Z, bYr Γ (p 0) (P2 0), bYr Γ (p 1) (Q 1), bYr Γ (p 2) (Q 2), bYr Γ (p 3) (Q 3), bYr Γ (p 4) (Q 4), bYr Γ (p 5) (Q 5), bSt Γ s2 d z p2 pc2, bCo Γ d k E, bTs Γ d k tr2, bYr Γ z Z, bYr Γ (p2 0) (P2 0), bYr Γ (p2 1) (P2 1), bYr Γ (p2 2) (P2 2), bYr Γ (p2 3) (P2 3), bYr Γ (p2 4) (P2 4), bYr Γ (p2 5) (P2 5)] := hD
          refine lv_iinc (v := nI 1) (lv' := [(2, .int (nI 1)), (0, .ref (s 0)), (1, .ref (s2 0))]) zx zb dX8_copyOf_55 hl (k := 2) rfl (nI_inc _ 1) (by decide) rfl (fun ls hl => ?_)
          refine lv_goto (tgt := 32) zx zb dX8_copyOf_58 (by decide) ?_
          exact ih32 1 (va_up Q 0 (P2 0)) (by omega) (by rw [hQ]; exact yCpy_s) (by omega) _ _ hP hD hS _ (lv_sub hl [1, 2, 0] rfl)
        · subst hsp
          refine lv_aload_n zx zb dX8_copyOf_40 rfl (lv_at hl 0 rfl) ?_
          refine g_get (v := .ref (s 1)) XX hP 0 0 rfl rfl rfl iwX8 2 (by decide) fl_X8_18 rfl dX8_copyOf_41 ?_
          refine lv_iload_n zx zb dX8_copyOf_44 rfl (lv_at hl 2 rfl) ?_
          refine g_aald (i := 1) (v := p 1 0) XX hP 0 1 5 rfl rfl rfl (by decide) (by decide) rfl dX8_copyOf_45 ?_
          refine lv_aload_n zx zb dX8_copyOf_46 rfl (lv_at hl 1 rfl) ?_
          refine g_get (v := .ref (s2 1)) XX hP 10 0 rfl rfl rfl iwX8 2 (by decide) fl_X8_18 rfl dX8_copyOf_47 ?_
          refine lv_iload_n zx zb dX8_copyOf_50 rfl (lv_at hl 2 rfl) ?_
          refine g_aald (i := 1) (v := p2 1 0) XX hP 10 1 5 rfl rfl rfl (by decide) (by decide) rfl dX8_copyOf_51 ?_
          refine call_Vv (As := [.ref (p2 1 0)]) (rest := []) XX cv_X8_41 (c_X10_copyOf Γ l (p 1) (Q 1) (p2 1) (P2 1) ) hP hD hS hA [5, 15] (by decide) rfl (fun _ => rfl) 5 0 rfl rfl rfl rfl hl.1 rfl ⟨⟨by decide, by decide⟩, by decide, by decide⟩ (Nat.le_of_ble_eq_true rfl) dX8_copyOf_52 (fun u H locs hw hP hD hS => ?_)
          have hw := hw.symm
          subst hw
          have hP : bP Γ [bSt Γ s c y p pc2, bCo Γ c k ((E, trCpy tr2 tr (coTc E)).1), bTs Γ c k ((E, trCpy tr2 tr (coTc E)).2), bYr Γ y Z, bYr Γ (p 0) (Q 0), bYr Γ (p 1) (P2 1), bYr Γ (p 2) (Q 2), bYr Γ (p 3) (Q 3), bYr Γ (p 4) (Q 4), bYr Γ (p 5) (Q 5), bSt Γ s2 d z p2 pc2, bCo Γ d k E, bTs Γ d k tr2, bYr Γ z Z, bYr Γ (p2 0) (P2 0), bYr Γ (p2 1) (P2 1), bYr Γ (p2 2) (P2 2), bYr Γ (p2 3) (P2 3), bYr Γ (p2 4) (P2 4), bYr Γ (p2 5) (P2 5)] H := hP
          have hD : bD AA [bSt Γ s c y p pc2, bCo Γ c k ((E, trCpy tr2 tr (coTc E)).1), bTs Γ c k ((E, trCpy tr2 tr (coTc E)).2), bYr Γ y Z, bYr Γ (p 0) (Q 0), bYr Γ (p 1) (P2 1), bYr Γ (p 2) (Q 2), bYr Γ (p 3) (Q 3), bYr Γ (p 4) (Q 4), bYr Γ (p 5) (Q 5), bSt Γ s2 d z p2 pc2, bCo Γ d k E, bTs Γ d k tr2, bYr Γ z Z, bYr Γ (p2 0) (P2 0), bYr Γ (p2 1) (P2 1), bYr Γ (p2 2) (P2 2), bYr Γ (p2 3) (P2 3), bYr Γ (p2 4) (P2 4), bYr Γ (p2 5) (P2 5)] := hD
          refine lv_iinc (v := nI 2) (lv' := [(2, .int (nI 2)), (0, .ref (s 0)), (1, .ref (s2 0))]) zx zb dX8_copyOf_55 hl (k := 2) rfl (nI_inc _ 1) (by decide) rfl (fun ls hl => ?_)
          refine lv_goto (tgt := 32) zx zb dX8_copyOf_58 (by decide) ?_
          exact ih32 2 (va_up Q 1 (P2 1)) (by omega) (by rw [hQ]; exact yCpy_s) (by omega) _ _ hP hD hS _ (lv_sub hl [1, 2, 0] rfl)
        · subst hsp
          refine lv_aload_n zx zb dX8_copyOf_40 rfl (lv_at hl 0 rfl) ?_
          refine g_get (v := .ref (s 1)) XX hP 0 0 rfl rfl rfl iwX8 2 (by decide) fl_X8_18 rfl dX8_copyOf_41 ?_
          refine lv_iload_n zx zb dX8_copyOf_44 rfl (lv_at hl 2 rfl) ?_
          refine g_aald (i := 2) (v := p 2 0) XX hP 0 1 5 rfl rfl rfl (by decide) (by decide) rfl dX8_copyOf_45 ?_
          refine lv_aload_n zx zb dX8_copyOf_46 rfl (lv_at hl 1 rfl) ?_
          refine g_get (v := .ref (s2 1)) XX hP 10 0 rfl rfl rfl iwX8 2 (by decide) fl_X8_18 rfl dX8_copyOf_47 ?_
          refine lv_iload_n zx zb dX8_copyOf_50 rfl (lv_at hl 2 rfl) ?_
          refine g_aald (i := 2) (v := p2 2 0) XX hP 10 1 5 rfl rfl rfl (by decide) (by decide) rfl dX8_copyOf_51 ?_
          refine call_Vv (As := [.ref (p2 2 0)]) (rest := []) XX cv_X8_41 (c_X10_copyOf Γ l (p 2) (Q 2) (p2 2) (P2 2) ) hP hD hS hA [6, 16] (by decide) rfl (fun _ => rfl) 6 0 rfl rfl rfl rfl hl.1 rfl ⟨⟨by decide, by decide⟩, by decide, by decide⟩ (Nat.le_of_ble_eq_true rfl) dX8_copyOf_52 (fun u H locs hw hP hD hS => ?_)
          have hw := hw.symm
          subst hw
          have hP : bP Γ [bSt Γ s c y p pc2, bCo Γ c k ((E, trCpy tr2 tr (coTc E)).1), bTs Γ c k ((E, trCpy tr2 tr (coTc E)).2), bYr Γ y Z, bYr Γ (p 0) (Q 0), bYr Γ (p 1) (Q 1), bYr Γ (p 2) (P2 2), bYr Γ (p 3) (Q 3), bYr Γ (p 4) (Q 4), bYr Γ (p 5) (Q 5), bSt Γ s2 d z p2 pc2, bCo Γ d k E, bTs Γ d k tr2, bYr Γ z Z, bYr Γ (p2 0) (P2 0), bYr Γ (p2 1) (P2 1), bYr Γ (p2 2) (P2 2), bYr Γ (p2 3) (P2 3), bYr Γ (p2 4) (P2 4), bYr Γ (p2 5) (P2 5)] H := hP
          have hD : bD AA [bSt Γ s c y p pc2, bCo Γ c k ((E, trCpy tr2 tr (coTc E)).1), bTs Γ c k ((E, trCpy tr2 tr (coTc E)).2), bYr Γ y Z, bYr Γ (p 0) (Q 0), bYr Γ (p 1) (Q 1), bYr Γ (p 2) (P2 2), bYr Γ (p 3) (Q 3), bYr Γ (p 4) (Q 4), bYr Γ (p 5) (Q 5), bSt Γ s2 d z p2 pc2, bCo Γ d k E, bTs Γ d k tr2, bYr Γ z Z, bYr Γ (p2 0) (P2 0), bYr Γ (p2 1) (P2 1), bYr Γ (p2 2) (P2 2), bYr Γ (p2 3) (P2 3), bYr Γ (p2 4) (P2 4), bYr Γ (p2 5) (P2 5)] := hD
          refine lv_iinc (v := nI 3) (lv' := [(2, .int (nI 3)), (0, .ref (s 0)), (1, .ref (s2 0))]) zx zb dX8_copyOf_55 hl (k := 2) rfl (nI_inc _ 1) (by decide) rfl (fun ls hl => ?_)
          refine lv_goto (tgt := 32) zx zb dX8_copyOf_58 (by decide) ?_
          exact ih32 3 (va_up Q 2 (P2 2)) (by omega) (by rw [hQ]; exact yCpy_s) (by omega) _ _ hP hD hS _ (lv_sub hl [1, 2, 0] rfl)
        · subst hsp
          refine lv_aload_n zx zb dX8_copyOf_40 rfl (lv_at hl 0 rfl) ?_
          refine g_get (v := .ref (s 1)) XX hP 0 0 rfl rfl rfl iwX8 2 (by decide) fl_X8_18 rfl dX8_copyOf_41 ?_
          refine lv_iload_n zx zb dX8_copyOf_44 rfl (lv_at hl 2 rfl) ?_
          refine g_aald (i := 3) (v := p 3 0) XX hP 0 1 5 rfl rfl rfl (by decide) (by decide) rfl dX8_copyOf_45 ?_
          refine lv_aload_n zx zb dX8_copyOf_46 rfl (lv_at hl 1 rfl) ?_
          refine g_get (v := .ref (s2 1)) XX hP 10 0 rfl rfl rfl iwX8 2 (by decide) fl_X8_18 rfl dX8_copyOf_47 ?_
          refine lv_iload_n zx zb dX8_copyOf_50 rfl (lv_at hl 2 rfl) ?_
          refine g_aald (i := 3) (v := p2 3 0) XX hP 10 1 5 rfl rfl rfl (by decide) (by decide) rfl dX8_copyOf_51 ?_
          refine call_Vv (As := [.ref (p2 3 0)]) (rest := []) XX cv_X8_41 (c_X10_copyOf Γ l (p 3) (Q 3) (p2 3) (P2 3) ) hP hD hS hA [7, 17] (by decide) rfl (fun _ => rfl) 7 0 rfl rfl rfl rfl hl.1 rfl ⟨⟨by decide, by decide⟩, by decide, by decide⟩ (Nat.le_of_ble_eq_true rfl) dX8_copyOf_52 (fun u H locs hw hP hD hS => ?_)
          have hw := hw.symm
          subst hw
          have hP : bP Γ [bSt Γ s c y p pc2, bCo Γ c k ((E, trCpy tr2 tr (coTc E)).1), bTs Γ c k ((E, trCpy tr2 tr (coTc E)).2), bYr Γ y Z, bYr Γ (p 0) (Q 0), bYr Γ (p 1) (Q 1), bYr Γ (p 2) (Q 2), bYr Γ (p 3) (P2 3), bYr Γ (p 4) (Q 4), bYr Γ (p 5) (Q 5), bSt Γ s2 d z p2 pc2, bCo Γ d k E, bTs Γ d k tr2, bYr Γ z Z, bYr Γ (p2 0) (P2 0), bYr Γ (p2 1) (P2 1), bYr Γ (p2 2) (P2 2), bYr Γ (p2 3) (P2 3), bYr Γ (p2 4) (P2 4), bYr Γ (p2 5) (P2 5)] H := hP
          have hD : bD AA [bSt Γ s c y p pc2, bCo Γ c k ((E, trCpy tr2 tr (coTc E)).1), bTs Γ c k ((E, trCpy tr2 tr (coTc E)).2), bYr Γ y Z, bYr Γ (p 0) (Q 0), bYr Γ (p 1) (Q 1), bYr Γ (p 2) (Q 2), bYr Γ (p 3) (P2 3), bYr Γ (p 4) (Q 4), bYr Γ (p 5) (Q 5), bSt Γ s2 d z p2 pc2, bCo Γ d k E, bTs Γ d k tr2, bYr Γ z Z, bYr Γ (p2 0) (P2 0), bYr Γ (p2 1) (P2 1), bYr Γ (p2 2) (P2 2), bYr Γ (p2 3) (P2 3), bYr Γ (p2 4) (P2 4), bYr Γ (p2 5) (P2 5)] := hD
          refine lv_iinc (v := nI 4) (lv' := [(2, .int (nI 4)), (0, .ref (s 0)), (1, .ref (s2 0))]) zx zb dX8_copyOf_55 hl (k := 2) rfl (nI_inc _ 1) (by decide) rfl (fun ls hl => ?_)
          refine lv_goto (tgt := 32) zx zb dX8_copyOf_58 (by decide) ?_
          exact ih32 4 (va_up Q 3 (P2 3)) (by omega) (by rw [hQ]; exact yCpy_s) (by omega) _ _ hP hD hS _ (lv_sub hl [1, 2, 0] rfl)
        · subst hsp
          refine lv_aload_n zx zb dX8_copyOf_40 rfl (lv_at hl 0 rfl) ?_
          refine g_get (v := .ref (s 1)) XX hP 0 0 rfl rfl rfl iwX8 2 (by decide) fl_X8_18 rfl dX8_copyOf_41 ?_
          refine lv_iload_n zx zb dX8_copyOf_44 rfl (lv_at hl 2 rfl) ?_
          refine g_aald (i := 4) (v := p 4 0) XX hP 0 1 5 rfl rfl rfl (by decide) (by decide) rfl dX8_copyOf_45 ?_
          refine lv_aload_n zx zb dX8_copyOf_46 rfl (lv_at hl 1 rfl) ?_
          refine g_get (v := .ref (s2 1)) XX hP 10 0 rfl rfl rfl iwX8 2 (by decide) fl_X8_18 rfl dX8_copyOf_47 ?_
          refine lv_iload_n zx zb dX8_copyOf_50 rfl (lv_at hl 2 rfl) ?_
          refine g_aald (i := 4) (v := p2 4 0) XX hP 10 1 5 rfl rfl rfl (by decide) (by decide) rfl dX8_copyOf_51 ?_
          refine call_Vv (As := [.ref (p2 4 0)]) (rest := []) XX cv_X8_41 (c_X10_copyOf Γ l (p 4) (Q 4) (p2 4) (P2 4) ) hP hD hS hA [8, 18] (by decide) rfl (fun _ => rfl) 8 0 rfl rfl rfl rfl hl.1 rfl ⟨⟨by decide, by decide⟩, by decide, by decide⟩ (Nat.le_of_ble_eq_true rfl) dX8_copyOf_52 (fun u H locs hw hP hD hS => ?_)
          have hw := hw.symm
          subst hw
          have hP : bP Γ [bSt Γ s c y p pc2, bCo Γ c k ((E, trCpy tr2 tr (coTc E)).1), bTs Γ c k ((E, trCpy tr2 tr (coTc E)).2), bYr Γ y Z, bYr Γ (p 0) (Q 0), bYr Γ (p 1) (Q 1), bYr Γ (p 2) (Q 2), bYr Γ (p 3) (Q 3), bYr Γ (p 4) (P2 4), bYr Γ (p 5) (Q 5), bSt Γ s2 d z p2 pc2, bCo Γ d k E, bTs Γ d k tr2, bYr Γ z Z, bYr Γ (p2 0) (P2 0), bYr Γ (p2 1) (P2 1), bYr Γ (p2 2) (P2 2), bYr Γ (p2 3) (P2 3), bYr Γ (p2 4) (P2 4), bYr Γ (p2 5) (P2 5)] H := hP
          have hD : bD AA [bSt Γ s c y p pc2, bCo Γ c k ((E, trCpy tr2 tr (coTc E)).1), bTs Γ c k ((E, trCpy tr2 tr (coTc E)).2), bYr Γ y Z, bYr Γ (p 0) (Q 0), bYr Γ (p 1) (Q 1), bYr Γ (p 2) (Q 2), bYr Γ (p 3) (Q 3), bYr Γ (p 4) (P2 4), bYr Γ (p 5) (Q 5), bSt Γ s2 d z p2 pc2, bCo Γ d k E, bTs Γ d k tr2, bYr Γ z Z, bYr Γ (p2 0) (P2 0), bYr Γ (p2 1) (P2 1), bYr Γ (p2 2) (P2 2), bYr Γ (p2 3) (P2 3), bYr Γ (p2 4) (P2 4), bYr Γ (p2 5) (P2 5)] := hD
          refine lv_iinc (v := nI 5) (lv' := [(2, .int (nI 5)), (0, .ref (s 0)), (1, .ref (s2 0))]) zx zb dX8_copyOf_55 hl (k := 2) rfl (nI_inc _ 1) (by decide) rfl (fun ls hl => ?_)
          refine lv_goto (tgt := 32) zx zb dX8_copyOf_58 (by decide) ?_
          exact ih32 5 (va_up Q 4 (P2 4)) (by omega) (by rw [hQ]; exact yCpy_s) (by omega) _ _ hP hD hS _ (lv_sub hl [1, 2, 0] rfl)
        · subst hsp
          refine lv_aload_n zx zb dX8_copyOf_40 rfl (lv_at hl 0 rfl) ?_
          refine g_get (v := .ref (s 1)) XX hP 0 0 rfl rfl rfl iwX8 2 (by decide) fl_X8_18 rfl dX8_copyOf_41 ?_
          refine lv_iload_n zx zb dX8_copyOf_44 rfl (lv_at hl 2 rfl) ?_
          refine g_aald (i := 5) (v := p 5 0) XX hP 0 1 5 rfl rfl rfl (by decide) (by decide) rfl dX8_copyOf_45 ?_
          refine lv_aload_n zx zb dX8_copyOf_46 rfl (lv_at hl 1 rfl) ?_
          refine g_get (v := .ref (s2 1)) XX hP 10 0 rfl rfl rfl iwX8 2 (by decide) fl_X8_18 rfl dX8_copyOf_47 ?_
          refine lv_iload_n zx zb dX8_copyOf_50 rfl (lv_at hl 2 rfl) ?_
          refine g_aald (i := 5) (v := p2 5 0) XX hP 10 1 5 rfl rfl rfl (by decide) (by decide) rfl dX8_copyOf_51 ?_
          refine call_Vv (As := [.ref (p2 5 0)]) (rest := []) XX cv_X8_41 (c_X10_copyOf Γ l (p 5) (Q 5) (p2 5) (P2 5) ) hP hD hS hA [9, 19] (by decide) rfl (fun _ => rfl) 9 0 rfl rfl rfl rfl hl.1 rfl ⟨⟨by decide, by decide⟩, by decide, by decide⟩ (Nat.le_of_ble_eq_true rfl) dX8_copyOf_52 (fun u H locs hw hP hD hS => ?_)
          have hw := hw.symm
          subst hw
          have hP : bP Γ [bSt Γ s c y p pc2, bCo Γ c k ((E, trCpy tr2 tr (coTc E)).1), bTs Γ c k ((E, trCpy tr2 tr (coTc E)).2), bYr Γ y Z, bYr Γ (p 0) (Q 0), bYr Γ (p 1) (Q 1), bYr Γ (p 2) (Q 2), bYr Γ (p 3) (Q 3), bYr Γ (p 4) (Q 4), bYr Γ (p 5) (P2 5), bSt Γ s2 d z p2 pc2, bCo Γ d k E, bTs Γ d k tr2, bYr Γ z Z, bYr Γ (p2 0) (P2 0), bYr Γ (p2 1) (P2 1), bYr Γ (p2 2) (P2 2), bYr Γ (p2 3) (P2 3), bYr Γ (p2 4) (P2 4), bYr Γ (p2 5) (P2 5)] H := hP
          have hD : bD AA [bSt Γ s c y p pc2, bCo Γ c k ((E, trCpy tr2 tr (coTc E)).1), bTs Γ c k ((E, trCpy tr2 tr (coTc E)).2), bYr Γ y Z, bYr Γ (p 0) (Q 0), bYr Γ (p 1) (Q 1), bYr Γ (p 2) (Q 2), bYr Γ (p 3) (Q 3), bYr Γ (p 4) (Q 4), bYr Γ (p 5) (P2 5), bSt Γ s2 d z p2 pc2, bCo Γ d k E, bTs Γ d k tr2, bYr Γ z Z, bYr Γ (p2 0) (P2 0), bYr Γ (p2 1) (P2 1), bYr Γ (p2 2) (P2 2), bYr Γ (p2 3) (P2 3), bYr Γ (p2 4) (P2 4), bYr Γ (p2 5) (P2 5)] := hD
          refine lv_iinc (v := nI 6) (lv' := [(2, .int (nI 6)), (0, .ref (s 0)), (1, .ref (s2 0))]) zx zb dX8_copyOf_55 hl (k := 2) rfl (nI_inc _ 1) (by decide) rfl (fun ls hl => ?_)
          refine lv_goto (tgt := 32) zx zb dX8_copyOf_58 (by decide) ?_
          exact ih32 6 (va_up Q 5 (P2 5)) (by omega) (by rw [hQ]; exact yCpy_s) (by omega) _ _ hP hD hS _ (lv_sub hl [1, 2, 0] rfl)
  exact L32 _ 0 P (by omega) (yCpy_0.symm) (Nat.lt_succ_self _) _ _ hP hD hS _ (lv_sub hl [1, 2, 0] rfl)
