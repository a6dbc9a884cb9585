theorem cv_X11_138 : CWV RX11 138 RX2 yX2_copyOf cX2_copyOf 3 none 1 := ⟨cd_X2_copyOf, im_X2_copyOf, se_X2_X2_copyOf_X2_copyOf, in_X2, ml_X11_138, by decide +kernel⟩
theorem cv_X11_219 : CWV RX11 219 RX11 yX11_isKept cX11_isKept 8 (some (.boolean)) 4 := ⟨cd_X11_isKept, im_X11_isKept, se_X11_X11_isKept_X11_isKept, in_X11, ml_X11_219, by decide +kernel⟩
theorem cv_X11_223 : CWV RX11 223 RX11 yX11_floodings cX11_floodings 5 (some (.int)) 2 := ⟨cd_X11_floodings, im_X11_floodings, se_X11_X11_floodings_X11_floodings, in_X11, ml_X11_223, by decide +kernel⟩
theorem cv_X11_348 : CWV RX11 348 RX2 yX2_addTreaty cX2_addTreaty 8 (some (.int)) 6 := ⟨cd_X2_addTreaty, im_X2_addTreaty, se_X2_X2_addTreaty_X2_addTreaty, in_X2, ml_X11_348, by decide +kernel⟩
set_option maxHeartbeats 4000000 in
set_option maxRecDepth 100000 in
theorem c_X2_addTreaty_ok (Γ : GG) (l : Launch) (c : Nat → Nat) (k : Nat → Nat) (C : CoV) (tr : Nat → TrV) (kd : Nat) (a : Int32) (b : Int32) (f : Int32) (t : Int32) (q : Int32) (htc : C.2.2.2.2.2.2.1 < 6) (hk6 : kd < 6) : Ci Γ l yX2_addTreaty cX2_addTreaty 8 (some (.int)) 3 63 0 0 [.ref (c 0), .int (nI kd), .int a, .int b, .int f, .int t, .int q] [bCo Γ c k C, bTs Γ c k tr, bKd Γ k] (fun (r : Int32) (u : CoV × (Nat → TrV)) => r = nI (C.2.2.2.2.2.2.1) ∧ u = (coSetTc C (C.2.2.2.2.2.2.1 + 1), va_up tr (C.2.2.2.2.2.2.1) (kd, nI kd, a, b, f, t, q, kCosts kd q))) (fun (u : CoV × (Nat → TrV)) => [bCo Γ c k u.1, bTs Γ c k u.2, bKd Γ k]) := by
  refine Ci.of (Or.inl rfl) (by decide) (Nat.le_of_ble_eq_true rfl) ?_
  intro pp ee ss mm bb me cd AA QQ XX hnm hA hP hD fin ls hl
  obtain ⟨zx, zb, hml, hown, hts, hK⟩ := id XX
  have hS : va_S AA ss.heap ss.heap [] := va_S.rf
  have hl : lv_has ls 8 [(0, .ref (c 0)), (1, .int (nI kd)), (2, .int a), (3, .int b), (4, .int f), (5, .int t), (6, .int q)] := hl
  refine lv_aload_n zx zb dX2_addTreaty_0 rfl (lv_at hl 0 rfl) ?_
  refine g_get (v := .int (nI (C.2.2.2.2.2.2.1))) XX hP 0 0 rfl rfl rfl iwX2 8 (by decide) fl_X2_53 rfl dX2_addTreaty_1 ?_
  refine lv_bipush (v := nI 6) zx zb dX2_addTreaty_4 (by decide) ?_
  refine lv_icmp_lt (tgt := 12) zx zb dX2_addTreaty_6 (by decide) (fun c_6 => ?_) (fun c_6 => ?_)
  · have c_6 : C.2.2.2.2.2.2.1 < 6 := (nI_ltI (a := C.2.2.2.2.2.2.1) (b := 6) (by omega) (by omega)).mp c_6
    refine lv_aload_n zx zb dX2_addTreaty_12 rfl (lv_at hl 0 rfl) ?_
    refine g_get (v := .ref (c 5)) XX hP 0 0 rfl rfl rfl iwX2 7 (by decide) fl_X2_26 rfl dX2_addTreaty_13 ?_
    refine lv_aload_n zx zb dX2_addTreaty_16 rfl (lv_at hl 0 rfl) ?_
    refine g_get (v := .int (nI (C.2.2.2.2.2.2.1))) XX hP 0 0 rfl rfl rfl iwX2 8 (by decide) fl_X2_53 rfl dX2_addTreaty_17 ?_
    refine g_aald (i := C.2.2.2.2.2.2.1) (v := c (6 + C.2.2.2.2.2.2.1)) XX hP 0 5 4 rfl rfl rfl (by omega) (by decide) rfl dX2_addTreaty_20 ?_
    refine lv_astore (lv' := [(7, .ref (c (6 + C.2.2.2.2.2.2.1))), (0, .ref (c 0)), (1, .int (nI kd)), (2, .int a), (3, .int b), (4, .int f), (5, .int t), (6, .int q)]) zx zb dX2_addTreaty_21 hl (by decide) rfl (fun ls hl => ?_)
    refine lv_aload zx zb dX2_addTreaty_23 (lv_at hl 0 rfl) ?_
    refine lv_aload_n zx zb dX2_addTreaty_25 rfl (lv_at hl 1 rfl) ?_
    refine g_get (v := .ref (k 6)) XX hP 0 0 rfl rfl rfl iwX2 0 (by decide) fl_X2_39 rfl dX2_addTreaty_26 ?_
    refine lv_iload_n zx zb dX2_addTreaty_29 rfl (lv_at hl 2 rfl) ?_
    refine g_aald (i := kd) (v := k kd) XX hP 2 0 2 rfl rfl rfl (by omega) (by decide) rfl dX2_addTreaty_30 ?_
    refine g_put (v := .ref (k kd)) (blk' := bTs Γ c k (va_up tr C.2.2.2.2.2.2.1 (kd, (tr C.2.2.2.2.2.2.1).2.1, (tr C.2.2.2.2.2.2.1).2.2.1, (tr C.2.2.2.2.2.2.1).2.2.2.1, (tr C.2.2.2.2.2.2.1).2.2.2.2.1, (tr C.2.2.2.2.2.2.1).2.2.2.2.2.1, (tr C.2.2.2.2.2.2.1).2.2.2.2.2.2.1, (tr C.2.2.2.2.2.2.1).2.2.2.2.2.2.2))) (bs' := [bCo Γ c k C, bTs Γ c k (va_up tr C.2.2.2.2.2.2.1 (kd, (tr C.2.2.2.2.2.2.1).2.1, (tr C.2.2.2.2.2.2.1).2.2.1, (tr C.2.2.2.2.2.2.1).2.2.2.1, (tr C.2.2.2.2.2.2.1).2.2.2.2.1, (tr C.2.2.2.2.2.2.1).2.2.2.2.2.1, (tr C.2.2.2.2.2.2.1).2.2.2.2.2.2.1, (tr C.2.2.2.2.2.2.1).2.2.2.2.2.2.2)), bKd Γ k]) XX hP hD hS 1 C.2.2.2.2.2.2.1 rfl (bTs_at Γ c k tr (by omega)) rfl iwX9 tyX9_ok nmX9 0 (by decide) fl_X2_73 rfl rfl rfl (Nat.le_of_ble_eq_true rfl) rfl (bTs_set (t := (kd, (tr C.2.2.2.2.2.2.1).2.1, (tr C.2.2.2.2.2.2.1).2.2.1, (tr C.2.2.2.2.2.2.1).2.2.2.1, (tr C.2.2.2.2.2.2.1).2.2.2.2.1, (tr C.2.2.2.2.2.2.1).2.2.2.2.2.1, (tr C.2.2.2.2.2.2.1).2.2.2.2.2.2.1, (tr C.2.2.2.2.2.2.1).2.2.2.2.2.2.2)) (by omega)) rfl dX2_addTreaty_31 (fun H locs hP hD hS => ?_)
    refine lv_aload zx zb dX2_addTreaty_34 (lv_at hl 0 rfl) ?_
    refine lv_iload_n zx zb dX2_addTreaty_36 rfl (lv_at hl 2 rfl) ?_
    refine g_put (v := .int (nI kd)) (blk' := bTs Γ c k (va_up tr C.2.2.2.2.2.2.1 (kd, nI kd, (tr C.2.2.2.2.2.2.1).2.2.1, (tr C.2.2.2.2.2.2.1).2.2.2.1, (tr C.2.2.2.2.2.2.1).2.2.2.2.1, (tr C.2.2.2.2.2.2.1).2.2.2.2.2.1, (tr C.2.2.2.2.2.2.1).2.2.2.2.2.2.1, (tr C.2.2.2.2.2.2.1).2.2.2.2.2.2.2))) (bs' := [bCo Γ c k C, bTs Γ c k (va_up tr C.2.2.2.2.2.2.1 (kd, nI kd, (tr C.2.2.2.2.2.2.1).2.2.1, (tr C.2.2.2.2.2.2.1).2.2.2.1, (tr C.2.2.2.2.2.2.1).2.2.2.2.1, (tr C.2.2.2.2.2.2.1).2.2.2.2.2.1, (tr C.2.2.2.2.2.2.1).2.2.2.2.2.2.1, (tr C.2.2.2.2.2.2.1).2.2.2.2.2.2.2)), bKd Γ k]) XX hP hD hS 1 C.2.2.2.2.2.2.1 rfl (bTs_at2 Γ c k tr (kd, (tr C.2.2.2.2.2.2.1).2.1, (tr C.2.2.2.2.2.2.1).2.2.1, (tr C.2.2.2.2.2.2.1).2.2.2.1, (tr C.2.2.2.2.2.2.1).2.2.2.2.1, (tr C.2.2.2.2.2.2.1).2.2.2.2.2.1, (tr C.2.2.2.2.2.2.1).2.2.2.2.2.2.1, (tr C.2.2.2.2.2.2.1).2.2.2.2.2.2.2) (by omega)) rfl iwX9 tyX9_ok nmX9 1 (by decide) fl_X2_77 rfl rfl rfl (Nat.le_of_ble_eq_true rfl) rfl (bTs_set2 (t := (kd, nI kd, (tr C.2.2.2.2.2.2.1).2.2.1, (tr C.2.2.2.2.2.2.1).2.2.2.1, (tr C.2.2.2.2.2.2.1).2.2.2.2.1, (tr C.2.2.2.2.2.2.1).2.2.2.2.2.1, (tr C.2.2.2.2.2.2.1).2.2.2.2.2.2.1, (tr C.2.2.2.2.2.2.1).2.2.2.2.2.2.2)) (by omega)) rfl dX2_addTreaty_37 (fun H locs hP hD hS => ?_)
    refine lv_aload zx zb dX2_addTreaty_40 (lv_at hl 0 rfl) ?_
    refine lv_iload_n zx zb dX2_addTreaty_42 rfl (lv_at hl 3 rfl) ?_
    refine g_put (v := .int a) (blk' := bTs Γ c k (va_up tr C.2.2.2.2.2.2.1 (kd, nI kd, a, (tr C.2.2.2.2.2.2.1).2.2.2.1, (tr C.2.2.2.2.2.2.1).2.2.2.2.1, (tr C.2.2.2.2.2.2.1).2.2.2.2.2.1, (tr C.2.2.2.2.2.2.1).2.2.2.2.2.2.1, (tr C.2.2.2.2.2.2.1).2.2.2.2.2.2.2))) (bs' := [bCo Γ c k C, bTs Γ c k (va_up tr C.2.2.2.2.2.2.1 (kd, nI kd, a, (tr C.2.2.2.2.2.2.1).2.2.2.1, (tr C.2.2.2.2.2.2.1).2.2.2.2.1, (tr C.2.2.2.2.2.2.1).2.2.2.2.2.1, (tr C.2.2.2.2.2.2.1).2.2.2.2.2.2.1, (tr C.2.2.2.2.2.2.1).2.2.2.2.2.2.2)), bKd Γ k]) XX hP hD hS 1 C.2.2.2.2.2.2.1 rfl (bTs_at2 Γ c k tr (kd, nI kd, (tr C.2.2.2.2.2.2.1).2.2.1, (tr C.2.2.2.2.2.2.1).2.2.2.1, (tr C.2.2.2.2.2.2.1).2.2.2.2.1, (tr C.2.2.2.2.2.2.1).2.2.2.2.2.1, (tr C.2.2.2.2.2.2.1).2.2.2.2.2.2.1, (tr C.2.2.2.2.2.2.1).2.2.2.2.2.2.2) (by omega)) rfl iwX9 tyX9_ok nmX9 2 (by decide) fl_X2_80 rfl rfl rfl (Nat.le_of_ble_eq_true rfl) rfl (bTs_set2 (t := (kd, nI kd, a, (tr C.2.2.2.2.2.2.1).2.2.2.1, (tr C.2.2.2.2.2.2.1).2.2.2.2.1, (tr C.2.2.2.2.2.2.1).2.2.2.2.2.1, (tr C.2.2.2.2.2.2.1).2.2.2.2.2.2.1, (tr C.2.2.2.2.2.2.1).2.2.2.2.2.2.2)) (by omega)) rfl dX2_addTreaty_43 (fun H locs hP hD hS => ?_)
    refine lv_aload zx zb dX2_addTreaty_46 (lv_at hl 0 rfl) ?_
    refine lv_iload_n zx zb dX2_addTreaty_48 rfl (lv_at hl 4 rfl) ?_
    refine g_put (v := .int b) (blk' := bTs Γ c k (va_up tr C.2.2.2.2.2.2.1 (kd, nI kd, a, b, (tr C.2.2.2.2.2.2.1).2.2.2.2.1, (tr C.2.2.2.2.2.2.1).2.2.2.2.2.1, (tr C.2.2.2.2.2.2.1).2.2.2.2.2.2.1, (tr C.2.2.2.2.2.2.1).2.2.2.2.2.2.2))) (bs' := [bCo Γ c k C, bTs Γ c k (va_up tr C.2.2.2.2.2.2.1 (kd, nI kd, a, b, (tr C.2.2.2.2.2.2.1).2.2.2.2.1, (tr C.2.2.2.2.2.2.1).2.2.2.2.2.1, (tr C.2.2.2.2.2.2.1).2.2.2.2.2.2.1, (tr C.2.2.2.2.2.2.1).2.2.2.2.2.2.2)), bKd Γ k]) XX hP hD hS 1 C.2.2.2.2.2.2.1 rfl (bTs_at2 Γ c k tr (kd, nI kd, a, (tr C.2.2.2.2.2.2.1).2.2.2.1, (tr C.2.2.2.2.2.2.1).2.2.2.2.1, (tr C.2.2.2.2.2.2.1).2.2.2.2.2.1, (tr C.2.2.2.2.2.2.1).2.2.2.2.2.2.1, (tr C.2.2.2.2.2.2.1).2.2.2.2.2.2.2) (by omega)) rfl iwX9 tyX9_ok nmX9 3 (by decide) fl_X2_83 rfl rfl rfl (Nat.le_of_ble_eq_true rfl) rfl (bTs_set2 (t := (kd, nI kd, a, b, (tr C.2.2.2.2.2.2.1).2.2.2.2.1, (tr C.2.2.2.2.2.2.1).2.2.2.2.2.1, (tr C.2.2.2.2.2.2.1).2.2.2.2.2.2.1, (tr C.2.2.2.2.2.2.1).2.2.2.2.2.2.2)) (by omega)) rfl dX2_addTreaty_49 (fun H locs hP hD hS => ?_)
    refine lv_aload zx zb dX2_addTreaty_52 (lv_at hl 0 rfl) ?_
    refine lv_iload zx zb dX2_addTreaty_54 (lv_at hl 5 rfl) ?_
    refine g_put (v := .int f) (blk' := bTs Γ c k (va_up tr C.2.2.2.2.2.2.1 (kd, nI kd, a, b, f, (tr C.2.2.2.2.2.2.1).2.2.2.2.2.1, (tr C.2.2.2.2.2.2.1).2.2.2.2.2.2.1, (tr C.2.2.2.2.2.2.1).2.2.2.2.2.2.2))) (bs' := [bCo Γ c k C, bTs Γ c k (va_up tr C.2.2.2.2.2.2.1 (kd, nI kd, a, b, f, (tr C.2.2.2.2.2.2.1).2.2.2.2.2.1, (tr C.2.2.2.2.2.2.1).2.2.2.2.2.2.1, (tr C.2.2.2.2.2.2.1).2.2.2.2.2.2.2)), bKd Γ k]) XX hP hD hS 1 C.2.2.2.2.2.2.1 rfl (bTs_at2 Γ c k tr (kd, nI kd, a, b, (tr C.2.2.2.2.2.2.1).2.2.2.2.1, (tr C.2.2.2.2.2.2.1).2.2.2.2.2.1, (tr C.2.2.2.2.2.2.1).2.2.2.2.2.2.1, (tr C.2.2.2.2.2.2.1).2.2.2.2.2.2.2) (by omega)) rfl iwX9 tyX9_ok nmX9 4 (by decide) fl_X2_86 rfl rfl rfl (Nat.le_of_ble_eq_true rfl) rfl (bTs_set2 (t := (kd, nI kd, a, b, f, (tr C.2.2.2.2.2.2.1).2.2.2.2.2.1, (tr C.2.2.2.2.2.2.1).2.2.2.2.2.2.1, (tr C.2.2.2.2.2.2.1).2.2.2.2.2.2.2)) (by omega)) rfl dX2_addTreaty_56 (fun H locs hP hD hS => ?_)
    refine lv_aload zx zb dX2_addTreaty_59 (lv_at hl 0 rfl) ?_
    refine lv_iload zx zb dX2_addTreaty_61 (lv_at hl 6 rfl) ?_
    refine g_put (v := .int t) (blk' := bTs Γ c k (va_up tr C.2.2.2.2.2.2.1 (kd, nI kd, a, b, f, t, (tr C.2.2.2.2.2.2.1).2.2.2.2.2.2.1, (tr C.2.2.2.2.2.2.1).2.2.2.2.2.2.2))) (bs' := [bCo Γ c k C, bTs Γ c k (va_up tr C.2.2.2.2.2.2.1 (kd, nI kd, a, b, f, t, (tr C.2.2.2.2.2.2.1).2.2.2.2.2.2.1, (tr C.2.2.2.2.2.2.1).2.2.2.2.2.2.2)), bKd Γ k]) XX hP hD hS 1 C.2.2.2.2.2.2.1 rfl (bTs_at2 Γ c k tr (kd, nI kd, a, b, f, (tr C.2.2.2.2.2.2.1).2.2.2.2.2.1, (tr C.2.2.2.2.2.2.1).2.2.2.2.2.2.1, (tr C.2.2.2.2.2.2.1).2.2.2.2.2.2.2) (by omega)) rfl iwX9 tyX9_ok nmX9 5 (by decide) fl_X2_89 rfl rfl rfl (Nat.le_of_ble_eq_true rfl) rfl (bTs_set2 (t := (kd, nI kd, a, b, f, t, (tr C.2.2.2.2.2.2.1).2.2.2.2.2.2.1, (tr C.2.2.2.2.2.2.1).2.2.2.2.2.2.2)) (by omega)) rfl dX2_addTreaty_63 (fun H locs hP hD hS => ?_)
    refine lv_aload zx zb dX2_addTreaty_66 (lv_at hl 0 rfl) ?_
    refine lv_iload zx zb dX2_addTreaty_68 (lv_at hl 7 rfl) ?_
    refine g_put (v := .int q) (blk' := bTs Γ c k (va_up tr C.2.2.2.2.2.2.1 (kd, nI kd, a, b, f, t, q, (tr C.2.2.2.2.2.2.1).2.2.2.2.2.2.2))) (bs' := [bCo Γ c k C, bTs Γ c k (va_up tr C.2.2.2.2.2.2.1 (kd, nI kd, a, b, f, t, q, (tr C.2.2.2.2.2.2.1).2.2.2.2.2.2.2)), bKd Γ k]) XX hP hD hS 1 C.2.2.2.2.2.2.1 rfl (bTs_at2 Γ c k tr (kd, nI kd, a, b, f, t, (tr C.2.2.2.2.2.2.1).2.2.2.2.2.2.1, (tr C.2.2.2.2.2.2.1).2.2.2.2.2.2.2) (by omega)) rfl iwX9 tyX9_ok nmX9 6 (by decide) fl_X2_92 rfl rfl rfl (Nat.le_of_ble_eq_true rfl) rfl (bTs_set2 (t := (kd, nI kd, a, b, f, t, q, (tr C.2.2.2.2.2.2.1).2.2.2.2.2.2.2)) (by omega)) rfl dX2_addTreaty_70 (fun H locs hP hD hS => ?_)
    refine lv_aload zx zb dX2_addTreaty_73 (lv_at hl 0 rfl) ?_
    refine lv_aload zx zb dX2_addTreaty_75 (lv_at hl 0 rfl) ?_
    refine g_get (v := .ref (k kd)) XX hP 1 C.2.2.2.2.2.2.1 rfl (bTs_at2 Γ c k tr (kd, nI kd, a, b, f, t, q, (tr C.2.2.2.2.2.2.1).2.2.2.2.2.2.2) (by omega)) rfl iwX9 0 (by decide) fl_X2_73 rfl dX2_addTreaty_77 ?_
    refine lv_iload zx zb dX2_addTreaty_80 (lv_at hl 7 rfl) ?_
    have K82 : ∀ (H : Heap) (locs : List Loc), bP Γ [bCo Γ c k C, bTs Γ c k (va_up tr C.2.2.2.2.2.2.1 (kd, nI kd, a, b, f, t, q, (tr C.2.2.2.2.2.2.1).2.2.2.2.2.2.2)), bKd Γ k] H → va_S AA ss.heap H locs → W pp l ee { frames := 3, cells := 0, slots := 0, locals := 63 } ss mm [.ref (c 0), .int (nI kd), .int a, .int b, .int f, .int t, .int q].toArray bb me cd H locs 0 0 QQ (F0 mm 85 ls [.int (kCosts kd q), .ref (c (6 + C.2.2.2.2.2.2.1))]) := by
      intro H locs hP hS
      refine g_put (v := .int (kCosts kd q)) (blk' := bTs Γ c k (va_up tr C.2.2.2.2.2.2.1 (kd, nI kd, a, b, f, t, q, kCosts kd q))) (bs' := [bCo Γ c k C, bTs Γ c k (va_up tr C.2.2.2.2.2.2.1 (kd, nI kd, a, b, f, t, q, kCosts kd q)), bKd Γ k]) XX hP hD hS 1 C.2.2.2.2.2.2.1 rfl (bTs_at2 Γ c k tr (kd, nI kd, a, b, f, t, q, (tr C.2.2.2.2.2.2.1).2.2.2.2.2.2.2) (by omega)) rfl iwX9 tyX9_ok nmX9 7 (by decide) fl_X2_101 rfl rfl rfl (Nat.le_of_ble_eq_true rfl) rfl (bTs_set2 (t := (kd, nI kd, a, b, f, t, q, kCosts kd q)) (by omega)) rfl dX2_addTreaty_85 (fun H locs hP hD hS => ?_)
      refine lv_aload_n zx zb dX2_addTreaty_88 rfl (lv_at hl 1 rfl) ?_
      refine lv_dup zx zb dX2_addTreaty_89 rfl ?_
      refine g_get (v := .int (nI (C.2.2.2.2.2.2.1))) XX hP 0 0 rfl rfl rfl iwX2 8 (by decide) fl_X2_53 rfl dX2_addTreaty_90 ?_
      refine lv_iconst (v := nI 1) zx zb dX2_addTreaty_93 (by decide) ?_
      refine lv_iadd zx zb dX2_addTreaty_94 ?_
      refine g_top (y := nI (C.2.2.2.2.2.2.1 + 1)) (nI_add C.2.2.2.2.2.2.1 1) ?_
      refine g_put (v := .int (nI (C.2.2.2.2.2.2.1 + 1))) (blk' := bCo Γ c k (C.1, C.2.1, C.2.2.1, C.2.2.2.1, C.2.2.2.2.1, C.2.2.2.2.2.1, C.2.2.2.2.2.2.1 + 1, C.2.2.2.2.2.2.2.1, C.2.2.2.2.2.2.2.2.1, C.2.2.2.2.2.2.2.2.2.1, C.2.2.2.2.2.2.2.2.2.2)) (bs' := [bCo Γ c k (C.1, C.2.1, C.2.2.1, C.2.2.2.1, C.2.2.2.2.1, C.2.2.2.2.2.1, C.2.2.2.2.2.2.1 + 1, C.2.2.2.2.2.2.2.1, C.2.2.2.2.2.2.2.2.1, C.2.2.2.2.2.2.2.2.2.1, C.2.2.2.2.2.2.2.2.2.2), bTs Γ c k (va_up tr C.2.2.2.2.2.2.1 (kd, nI kd, a, b, f, t, q, kCosts kd q)), bKd Γ k]) XX hP hD hS 0 0 rfl rfl rfl iwX2 tyX2_ok nmX2 8 (by decide) fl_X2_53 rfl rfl rfl (Nat.le_of_ble_eq_true rfl) rfl rfl rfl dX2_addTreaty_95 (fun H locs hP hD hS => ?_)
      refine lv_aload_n zx zb dX2_addTreaty_98 rfl (lv_at hl 1 rfl) ?_
      refine g_get (v := .int (nI (C.2.2.2.2.2.2.1 + 1))) XX hP 0 0 rfl rfl rfl iwX2 8 (by decide) fl_X2_53 rfl dX2_addTreaty_99 ?_
      refine lv_iconst (v := nI 1) zx zb dX2_addTreaty_102 (by decide) ?_
      refine lv_isub zx zb dX2_addTreaty_103 ?_
      refine g_top (y := nI (C.2.2.2.2.2.2.1 + 1 - 1)) (pk_sub (by omega)) ?_
      exact fin _ _ (nI (C.2.2.2.2.2.2.1 + 1 - 1)) ((C.1, C.2.1, C.2.2.1, C.2.2.2.1, C.2.2.2.2.1, C.2.2.2.2.2.1, C.2.2.2.2.2.2.1 + 1, C.2.2.2.2.2.2.2.1, C.2.2.2.2.2.2.2.2.1, C.2.2.2.2.2.2.2.2.2.1, C.2.2.2.2.2.2.2.2.2.2), va_up tr C.2.2.2.2.2.2.1 (kd, nI kd, a, b, f, t, q, kCosts kd q)) 104 _ dX2_addTreaty_104 (fun h => by cases h) ⟨(rfl), (rfl)⟩ hP hD hS
    have h6_82 : kd < 6 := hk6
    rcases (show kd = 0 ∨ kd = 1 ∨ kd = 2 ∨ kd = 3 ∨ kd = 4 ∨ kd = 5 by omega) with h | h | h | h | h | h
    · refine callR_Oi (As := [.int q]) (rest := [.ref (c (6 + C.2.2.2.2.2.2.1))]) XX co_X2_95_X6 (c_X6_costs Γ l (k 0) q) hP hD hS hA nil_mem nil_D 2 1 rfl rfl rfl rfl hl.1 (by rw [h]; rfl) ⟨⟨by decide, by decide⟩, by decide, by decide⟩ (Nat.le_of_ble_eq_true rfl) dX2_addTreaty_82 (fun r H locs hw hP hS => ?_)
      have e : r = kCosts kd q := by rw [hw, h]; rfl
      rw [e]
      exact K82 H locs hP hS
    · refine callR_Oi (As := [.int q]) (rest := [.ref (c (6 + C.2.2.2.2.2.2.1))]) XX co_X2_95_X5 (c_X6_costs Γ l (k 1) q) hP hD hS hA nil_mem nil_D 2 2 rfl rfl rfl rfl hl.1 (by rw [h]; rfl) ⟨⟨by decide, by decide⟩, by decide, by decide⟩ (Nat.le_of_ble_eq_true rfl) dX2_addTreaty_82 (fun r H locs hw hP hS => ?_)
      have e : r = kCosts kd q := by rw [hw, h]; rfl
      rw [e]
      exact K82 H locs hP hS
    · refine callR_Oi (As := [.int q]) (rest := [.ref (c (6 + C.2.2.2.2.2.2.1))]) XX co_X2_95_X1 (c_X6_costs Γ l (k 2) q) hP hD hS hA nil_mem nil_D 2 3 rfl rfl rfl rfl hl.1 (by rw [h]; rfl) ⟨⟨by decide, by decide⟩, by decide, by decide⟩ (Nat.le_of_ble_eq_true rfl) dX2_addTreaty_82 (fun r H locs hw hP hS => ?_)
      have e : r = kCosts kd q := by rw [hw, h]; rfl
      rw [e]
      exact K82 H locs hP hS
    · refine callR_Oi (As := [.int q]) (rest := [.ref (c (6 + C.2.2.2.2.2.2.1))]) XX co_X2_95_X0 (c_X0_costs_0 Γ l (k 3) q) hP hD hS hA (one_mem (bs := [bCo Γ c k C, bTs Γ c k (va_up tr C.2.2.2.2.2.2.1 (kd, nI kd, a, b, f, t, q, (tr C.2.2.2.2.2.2.1).2.2.2.2.2.2.2)), bKd Γ k]) (k := 2) (j := 4) rfl rfl) (one_D _) 2 4 rfl rfl rfl rfl hl.1 (by rw [h]; rfl) ⟨⟨by decide, by decide⟩, by decide, by decide⟩ (Nat.le_of_ble_eq_true rfl) dX2_addTreaty_82 (fun r H locs hw hP hS => ?_)
      have e : r = kCosts kd q := by rw [hw, h]; rfl
      rw [e]
      exact K82 H locs hP hS
    · refine callR_Oi (As := [.int q]) (rest := [.ref (c (6 + C.2.2.2.2.2.2.1))]) XX co_X2_95_X4 (c_X4_costs_4 Γ l (k 4) q) hP hD hS hA (one_mem (bs := [bCo Γ c k C, bTs Γ c k (va_up tr C.2.2.2.2.2.2.1 (kd, nI kd, a, b, f, t, q, (tr C.2.2.2.2.2.2.1).2.2.2.2.2.2.2)), bKd Γ k]) (k := 2) (j := 5) rfl rfl) (one_D _) 2 5 rfl rfl rfl rfl hl.1 (by rw [h]; rfl) ⟨⟨by decide, by decide⟩, by decide, by decide⟩ (Nat.le_of_ble_eq_true rfl) dX2_addTreaty_82 (fun r H locs hw hP hS => ?_)
      have e : r = kCosts kd q := by rw [hw, h]; rfl
      rw [e]
      exact K82 H locs hP hS
    · refine callR_Oi (As := [.int q]) (rest := [.ref (c (6 + C.2.2.2.2.2.2.1))]) XX co_X2_95_X3 (c_X3_costs_3 Γ l (k 5) q) hP hD hS hA (one_mem (bs := [bCo Γ c k C, bTs Γ c k (va_up tr C.2.2.2.2.2.2.1 (kd, nI kd, a, b, f, t, q, (tr C.2.2.2.2.2.2.1).2.2.2.2.2.2.2)), bKd Γ k]) (k := 2) (j := 6) rfl rfl) (one_D _) 2 6 rfl rfl rfl rfl hl.1 (by rw [h]; rfl) ⟨⟨by decide, by decide⟩, by decide, by decide⟩ (Nat.le_of_ble_eq_true rfl) dX2_addTreaty_82 (fun r H locs hw hP hS => ?_)
      have e : r = kCosts kd q := by rw [hw, h]; rfl
      rw [e]
      exact K82 H locs hP hS
  · have c_6 : ¬ (C.2.2.2.2.2.2.1 < 6) := fun h => c_6 ((nI_ltI (a := C.2.2.2.2.2.2.1) (b := 6) (by omega) (by omega)).mpr h)
    exact absurd htc c_6

set_option maxHeartbeats 4000000 in
set_option maxRecDepth 100000 in
theorem c_X11_floodings (Γ : GG) (l : Launch) (t : Nat → Nat) (s : Nat → Nat) (x : Nat → Nat) (V : V3) (c : Nat → Nat) (k : Nat → Nat) (y : Nat → Nat) (p : Nat → Nat → Nat) (pc : Nat) (g : Nat → Nat) (G : CoV) (tr : Nat → TrV) (Y : YrV) (d : Nat → Nat) (z : Nat → Nat) (p2 : Nat → Nat → Nat) (pc2 : Nat) (Z : YrV) (m : Nat) (hn : G.1 ≤ 8) (htc : G.2.2.2.2.2.2.1 ≤ 6) (hkd : ∀ i, i < 6 → (tr i).1 < 6) (hm : m ≤ 12) : Ci Γ l yX11_floodings cX11_floodings 5 (some (.int)) 5 114 0 0 [.ref (t 0), .ref (g 0), .int (nI m)] [bTT Γ t s x V, bSt Γ s c y p pc, bYr Γ y Y, bSt Γ x d z p2 pc2, bCo Γ g k G, bTs Γ g k tr, bKd Γ k, bYr Γ z Z] (fun (r : Int32) (u : YrV) => r = popSum G tr Y m ∧ u = runM G tr Y m) (fun (u : YrV) => [bTT Γ t s x V, bSt Γ s c y p pc, bYr Γ y Y, bSt Γ x d z p2 pc2, bCo Γ g k G, bTs Γ g k tr, bKd Γ k, bYr Γ z u]) := by
  refine Ci.of (Or.inl rfl) (by decide) (Nat.le_of_ble_eq_true rfl) ?_
  intro pp ee ss mm bb me cd AA QQ XX hnm hA hP hD fin ls hl
  obtain ⟨zx, zb, hml, hown, hts, hK⟩ := id XX
  have hS : va_S AA ss.heap ss.heap [] := va_S.rf
  have hl : lv_has ls 5 [(0, .ref (t 0)), (1, .ref (g 0)), (2, .int (nI m))] := hl
  refine lv_aload_n zx zb dX11_floodings_0 rfl (lv_at hl 0 rfl) ?_
  refine g_get (v := .ref (x 0)) XX hP 0 0 rfl rfl rfl iwX11 1 (by decide) fl_X11_36 rfl dX11_floodings_1 ?_
  refine g_get (v := .ref (z 0)) XX hP 3 0 rfl rfl rfl iwX8 1 (by decide) fl_X11_82 rfl dX11_floodings_4 ?_
  refine lv_aload_n zx zb dX11_floodings_7 rfl (lv_at hl 0 rfl) ?_
  refine g_get (v := .ref (s 0)) XX hP 0 0 rfl rfl rfl iwX11 0 (by decide) fl_X11_30 rfl dX11_floodings_8 ?_
  refine g_get (v := .ref (y 0)) XX hP 1 0 rfl rfl rfl iwX8 1 (by decide) fl_X11_82 rfl dX11_floodings_11 ?_
  refine call_Vv (As := [.ref (y 0)]) (rest := []) XX cv_X11_142 (c_X10_copyOf Γ l z Z y Y ) hP hD hS hA [7, 2] (by decide) rfl (fun _ => rfl) 7 0 rfl rfl rfl rfl hl.1 rfl ⟨⟨by decide, by decide⟩, by decide, by decide⟩ (Nat.le_of_ble_eq_true rfl) dX11_floodings_14 (fun u H locs hw hP hD hS => ?_)
  have hw := hw.symm
  subst hw
  have hP : bP Γ [bTT Γ t s x V, bSt Γ s c y p pc, bYr Γ y Y, bSt Γ x d z p2 pc2, bCo Γ g k G, bTs Γ g k tr, bKd Γ k, bYr Γ z Y] H := hP
  have hD : bD AA [bTT Γ t s x V, bSt Γ s c y p pc, bYr Γ y Y, bSt Γ x d z p2 pc2, bCo Γ g k G, bTs Γ g k tr, bKd Γ k, bYr Γ z Y] := hD
  refine lv_iconst (v := nI 0) zx zb dX11_floodings_17 (by decide) ?_
  refine lv_istore_n (lv' := [(3, .int (nI 0)), (0, .ref (t 0)), (1, .ref (g 0)), (2, .int (nI m))]) zx zb dX11_floodings_18 rfl hl (by decide) rfl (fun ls hl => ?_)
  refine lv_iconst (v := nI 0) zx zb dX11_floodings_19 (by decide) ?_
  refine lv_istore (lv' := [(4, .int (nI 0)), (3, .int (nI 0)), (0, .ref (t 0)), (1, .ref (g 0)), (2, .int (nI m))]) zx zb dX11_floodings_20 hl (by decide) rfl (fun ls hl => ?_)
  have L22 : ∀ (nn : Nat) (i : Nat) (a : Int32) (Q : YrV), (i ≤ m) → (a = popSum G tr Y i) → (Q = runM G tr Y i) → m - i < nn → ∀ (H : Heap) (locs : List Loc), bP Γ [bTT Γ t s x V, bSt Γ s c y p pc, bYr Γ y Y, bSt Γ x d z p2 pc2, bCo Γ g k G, bTs Γ g k tr, bKd Γ k, bYr Γ z Q] H → bD AA [bTT Γ t s x V, bSt Γ s c y p pc, bYr Γ y Y, bSt Γ x d z p2 pc2, bCo Γ g k G, bTs Γ g k tr, bKd Γ k, bYr Γ z Q] → va_S AA ss.heap H locs → ∀ (ls : Array Slot), lv_has ls 5 [(0, .ref (t 0)), (1, .ref (g 0)), (2, .int (nI m)), (3, .int a), (4, .int (nI i))] → W pp l ee { frames := 5, cells := 0, slots := 0, locals := 114 } ss mm [.ref (t 0), .ref (g 0), .int (nI m)].toArray bb me cd H locs 0 0 QQ (F0 mm 22 ls []) := by
    intro nn
    induction nn with
    | zero => intro i a Q hi ha hQ hm; exact absurd hm (Nat.not_lt_zero _)
    | succ nn ih22 =>
      intro i a Q hi ha hQ hm22 H locs hP hD hS ls hl
      refine lv_iload zx zb dX11_floodings_22 (lv_at hl 4 rfl) ?_
      refine lv_iload_n zx zb dX11_floodings_24 rfl (lv_at hl 2 rfl) ?_
      refine lv_icmp_ge (tgt := 45) zx zb dX11_floodings_25 (by decide) (fun c_25 => ?_) (fun c_25 => ?_)
      · have c_25 : m ≤ i := (nI_leI (a := m) (b := i) (by omega) (by omega)).mp c_25
        refine lv_iload_n zx zb dX11_floodings_45 rfl (lv_at hl 3 rfl) ?_
        exact fin _ _ a Q 46 _ dX11_floodings_46 (fun h => by cases h) ⟨(by have e : i = m := (by omega); subst e; exact ha), (by have e : i = m := (by omega); subst e; exact hQ)⟩ hP hD hS
      · have c_25 : ¬ (m ≤ i) := fun h => c_25 ((nI_leI (a := m) (b := i) (by omega) (by omega)).mpr h)
        refine lv_iload_n zx zb dX11_floodings_28 rfl (lv_at hl 3 rfl) ?_
        refine lv_aload_n zx zb dX11_floodings_29 rfl (lv_at hl 0 rfl) ?_
        refine lv_aload_n zx zb dX11_floodings_30 rfl (lv_at hl 1 rfl) ?_
        refine call_Vi (As := [.ref (g 0)]) (rest := [.int a]) XX cv_X11_206 (c_X11_runAhead Γ l t s x V g k G tr d z p2 pc2 Q (hn) (htc) (hkd)) hP hD hS hA [0, 3, 4, 5, 6, 7] (by decide) rfl (fun _ => rfl) 0 0 rfl rfl rfl rfl hl.1 rfl ⟨⟨by decide, by decide⟩, by decide, by decide⟩ (Nat.le_of_ble_eq_true rfl) dX11_floodings_31 (fun r_31 u H locs hw hP hD hS => ?_)
        obtain ⟨hw1, hw2⟩ := hw
        have hw1 := hw1.symm
        have hw2 := hw2.symm
        subst hw1
        subst hw2
        have hP : bP Γ [bTT Γ t s x V, bSt Γ s c y p pc, bYr Γ y Y, bSt Γ x d z p2 pc2, bCo Γ g k G, bTs Γ g k tr, bKd Γ k, bYr Γ z (coNext G tr Q)] H := hP
        have hD : bD AA [bTT Γ t s x V, bSt Γ s c y p pc, bYr Γ y Y, bSt Γ x d z p2 pc2, bCo Γ g k G, bTs Γ g k tr, bKd Γ k, bYr Γ z (coNext G tr Q)] := hD
        refine callR_Si (As := [.int (coNextF G tr Q)]) (rest := [.int a]) XX cs_X11_262 (c_J6_bitCount_0f7a4 Γ l (coNextF G tr Q) ) hP hD hS hA nil_mem nil_D rfl hl.1 rfl ⟨⟨by decide, by decide⟩, by decide, by decide⟩ (Nat.le_of_ble_eq_true rfl) dX11_floodings_34 (fun r_34 H locs hw hP hS => ?_)
        have hw := hw.symm
        subst hw
        refine lv_iadd zx zb dX11_floodings_37 ?_
        refine lv_istore_n (lv' := [(3, .int (a + (popc (coNextF G tr Q)))), (0, .ref (t 0)), (1, .ref (g 0)), (2, .int (nI m)), (4, .int (nI i))]) zx zb dX11_floodings_38 rfl hl (by decide) rfl (fun ls hl => ?_)
        refine lv_iinc (v := nI (i + 1)) (lv' := [(4, .int (nI (i + 1))), (3, .int (a + (popc (coNextF G tr Q)))), (0, .ref (t 0)), (1, .ref (g 0)), (2, .int (nI m))]) zx zb dX11_floodings_39 hl (k := 4) rfl (nI_inc _ 1) (by decide) rfl (fun ls hl => ?_)
        refine lv_goto (tgt := 22) zx zb dX11_floodings_42 (by decide) ?_
        exact ih22 (i + 1) (a + (popc (coNextF G tr Q))) (coNext G tr Q) (by omega) (by rw [popSum, ← ha, ← hQ]) (by rw [runM, ← hQ]) (by omega) _ _ hP hD hS _ (lv_sub hl [2, 3, 4, 1, 0] rfl)
  exact L22 _ 0 0 Y (by omega) (rfl) (rfl) (Nat.lt_succ_self _) _ _ hP hD hS _ (lv_sub hl [2, 3, 4, 1, 0] rfl)

set_option maxHeartbeats 4000000 in
set_option maxRecDepth 100000 in
theorem c_X11_isKept (Γ : GG) (l : Launch) (t : Nat → Nat) (s : Nat → Nat) (x : Nat → Nat) (V : V3) (c : Nat → Nat) (k : Nat → Nat) (y : Nat → Nat) (p : Nat → Nat → Nat) (pc : Nat) (C : CoV) (Y : YrV) (d : Nat → Nat) (z : Nat → Nat) (p2 : Nat → Nat → Nat) (pc2 : Nat) (Z : YrV) (E : CoV) (T : Nat → TrV) (a : Int32) (b : Int32) (m : Nat) (q : Int32) (hn : E.1 ≤ 8) (htc : C.2.2.2.2.2.2.1 < 6) (hkd : ∀ i, i < 6 → (T i).1 < 6) (hm : m ≤ 12) : Ci Γ l yX11_isKept cX11_isKept 8 (some (.boolean)) 5 114 0 0 [.ref (t 0), .int a, .int b, .int (nI m), .int q] [bTT Γ t s x V, bSt Γ s c y p pc, bCo Γ c k C, bYr Γ y Y, bSt Γ x d z p2 pc2, bCo Γ d k E, bTs Γ d k T, bKd Γ k, bYr Γ z Z] (fun (r : Int32) (u : CoV × (Nat → TrV) × YrV) => r = bI (allN (keptP (coSetTc E (coTc C + 1)) (offT T (coTc C) a b Y.1 (Y.1 + nI m) q) Y (coTc C)) m) ∧ u.1 = coSetTc E (coTc C + 1) ∧ u.2.1 = offT T (coTc C) a b Y.1 (Y.1 + nI m) q) (fun (u : CoV × (Nat → TrV) × YrV) => [bTT Γ t s x V, bSt Γ s c y p pc, bCo Γ c k C, bYr Γ y Y, bSt Γ x d z p2 pc2, bCo Γ d k u.1, bTs Γ d k u.2.1, bKd Γ k, bYr Γ z u.2.2]) := by
  refine Ci.of (Or.inr rfl) (by decide) (Nat.le_of_ble_eq_true rfl) ?_
  intro pp ee ss mm bb me cd AA QQ XX hnm hA hP hD fin ls hl
  obtain ⟨zx, zb, hml, hown, hts, hK⟩ := id XX
  have hS : va_S AA ss.heap ss.heap [] := va_S.rf
  have hl : lv_has ls 8 [(0, .ref (t 0)), (1, .int a), (2, .int b), (3, .int (nI m)), (4, .int q)] := hl
  refine lv_aload_n zx zb dX11_isKept_0 rfl (lv_at hl 0 rfl) ?_
  refine g_get (v := .ref (x 0)) XX hP 0 0 rfl rfl rfl iwX11 1 (by decide) fl_X11_36 rfl dX11_isKept_1 ?_
  refine g_get (v := .ref (d 0)) XX hP 4 0 rfl rfl rfl iwX8 0 (by decide) fl_X11_100 rfl dX11_isKept_4 ?_
  refine lv_aload_n zx zb dX11_isKept_7 rfl (lv_at hl 0 rfl) ?_
  refine g_get (v := .ref (s 0)) XX hP 0 0 rfl rfl rfl iwX11 0 (by decide) fl_X11_30 rfl dX11_isKept_8 ?_
  refine g_get (v := .ref (c 0)) XX hP 1 0 rfl rfl rfl iwX8 0 (by decide) fl_X11_100 rfl dX11_isKept_11 ?_
  refine g_get (v := .int (nI (C.2.2.2.2.2.2.1))) XX hP 2 0 rfl rfl rfl iwX2 8 (by decide) fl_X11_216 rfl dX11_isKept_14 ?_
  refine g_put (v := .int (nI (C.2.2.2.2.2.2.1))) (blk' := bCo Γ d k (E.1, E.2.1, E.2.2.1, E.2.2.2.1, E.2.2.2.2.1, E.2.2.2.2.2.1, C.2.2.2.2.2.2.1, E.2.2.2.2.2.2.2.1, E.2.2.2.2.2.2.2.2.1, E.2.2.2.2.2.2.2.2.2.1, E.2.2.2.2.2.2.2.2.2.2)) (bs' := [bTT Γ t s x V, bSt Γ s c y p pc, bCo Γ c k C, bYr Γ y Y, bSt Γ x d z p2 pc2, bCo Γ d k (E.1, E.2.1, E.2.2.1, E.2.2.2.1, E.2.2.2.2.1, E.2.2.2.2.2.1, C.2.2.2.2.2.2.1, E.2.2.2.2.2.2.2.1, E.2.2.2.2.2.2.2.2.1, E.2.2.2.2.2.2.2.2.2.1, E.2.2.2.2.2.2.2.2.2.2), bTs Γ d k T, bKd Γ k, bYr Γ z Z]) XX hP hD hS 5 0 rfl rfl rfl iwX2 tyX2_ok nmX2 8 (by decide) fl_X11_216 rfl rfl rfl (Nat.le_of_ble_eq_true rfl) rfl rfl rfl dX11_isKept_17 (fun H locs hP hD hS => ?_)
  refine lv_aload_n zx zb dX11_isKept_20 rfl (lv_at hl 0 rfl) ?_
  refine g_get (v := .ref (s 0)) XX hP 0 0 rfl rfl rfl iwX11 0 (by decide) fl_X11_30 rfl dX11_isKept_21 ?_
  refine g_get (v := .ref (y 0)) XX hP 1 0 rfl rfl rfl iwX8 1 (by decide) fl_X11_82 rfl dX11_isKept_24 ?_
  refine g_get (v := .int Y.1) XX hP 3 0 rfl rfl rfl iwX10 0 (by decide) fl_X11_110 rfl dX11_isKept_27 ?_
  refine lv_istore (lv' := [(5, .int Y.1), (0, .ref (t 0)), (1, .int a), (2, .int b), (3, .int (nI m)), (4, .int q)]) zx zb dX11_isKept_30 hl (by decide) rfl (fun ls hl => ?_)
  refine lv_aload_n zx zb dX11_isKept_32 rfl (lv_at hl 1 rfl) ?_
  refine g_get (v := .ref (x 0)) XX hP 0 0 rfl rfl rfl iwX11 1 (by decide) fl_X11_36 rfl dX11_isKept_33 ?_
  refine g_get (v := .ref (d 0)) XX hP 4 0 rfl rfl rfl iwX8 0 (by decide) fl_X11_100 rfl dX11_isKept_36 ?_
  refine lv_iconst (v := nI 0) zx zb dX11_isKept_39 (by decide) ?_
  refine lv_iload_n zx zb dX11_isKept_40 rfl (lv_at hl 2 rfl) ?_
  refine lv_iload_n zx zb dX11_isKept_41 rfl (lv_at hl 3 rfl) ?_
  refine lv_iload zx zb dX11_isKept_42 (lv_at hl 0 rfl) ?_
  refine lv_iload zx zb dX11_isKept_44 (lv_at hl 0 rfl) ?_
  refine lv_iload_n zx zb dX11_isKept_46 rfl (lv_at hl 4 rfl) ?_
  refine lv_iadd zx zb dX11_isKept_47 ?_
  refine lv_iload zx zb dX11_isKept_48 (lv_at hl 5 rfl) ?_
  refine call_Vi (As := [.int (nI 0), .int a, .int b, .int Y.1, .int (Y.1 + (nI m)), .int q]) (rest := []) XX cv_X11_348 (c_X2_addTreaty_ok Γ l d k (E.1, E.2.1, E.2.2.1, E.2.2.2.1, E.2.2.2.2.1, E.2.2.2.2.2.1, C.2.2.2.2.2.2.1, E.2.2.2.2.2.2.2.1, E.2.2.2.2.2.2.2.2.1, E.2.2.2.2.2.2.2.2.2.1, E.2.2.2.2.2.2.2.2.2.2) T 0 a b Y.1 (Y.1 + (nI m)) q (by simpa using htc) (by omega)) hP hD hS hA [5, 6, 7] (by decide) rfl (fun _ => rfl) 5 0 rfl rfl rfl rfl hl.1 rfl ⟨⟨by decide, by decide⟩, by decide, by decide⟩ (Nat.le_of_ble_eq_true rfl) dX11_isKept_50 (fun r_50 u H locs hw hP hD hS => ?_)
  obtain ⟨hw1, hw2⟩ := hw
  have hw1 := hw1.symm
  have hw2 := hw2.symm
  subst hw1
  subst hw2
  have hP : bP Γ [bTT Γ t s x V, bSt Γ s c y p pc, bCo Γ c k C, bYr Γ y Y, bSt Γ x d z p2 pc2, bCo Γ d k ((coSetTc (E.1, E.2.1, E.2.2.1, E.2.2.2.1, E.2.2.2.2.1, E.2.2.2.2.2.1, C.2.2.2.2.2.2.1, E.2.2.2.2.2.2.2.1, E.2.2.2.2.2.2.2.2.1, E.2.2.2.2.2.2.2.2.2.1, E.2.2.2.2.2.2.2.2.2.2) ((E.1, E.2.1, E.2.2.1, E.2.2.2.1, E.2.2.2.2.1, E.2.2.2.2.2.1, C.2.2.2.2.2.2.1, E.2.2.2.2.2.2.2.1, E.2.2.2.2.2.2.2.2.1, E.2.2.2.2.2.2.2.2.2.1, E.2.2.2.2.2.2.2.2.2.2).2.2.2.2.2.2.1 + 1), va_up T ((E.1, E.2.1, E.2.2.1, E.2.2.2.1, E.2.2.2.2.1, E.2.2.2.2.2.1, C.2.2.2.2.2.2.1, E.2.2.2.2.2.2.2.1, E.2.2.2.2.2.2.2.2.1, E.2.2.2.2.2.2.2.2.2.1, E.2.2.2.2.2.2.2.2.2.2).2.2.2.2.2.2.1) (0, nI 0, a, b, Y.1, (Y.1 + (nI m)), q, kCosts 0 q)).1), bTs Γ d k ((coSetTc (E.1, E.2.1, E.2.2.1, E.2.2.2.1, E.2.2.2.2.1, E.2.2.2.2.2.1, C.2.2.2.2.2.2.1, E.2.2.2.2.2.2.2.1, E.2.2.2.2.2.2.2.2.1, E.2.2.2.2.2.2.2.2.2.1, E.2.2.2.2.2.2.2.2.2.2) ((E.1, E.2.1, E.2.2.1, E.2.2.2.1, E.2.2.2.2.1, E.2.2.2.2.2.1, C.2.2.2.2.2.2.1, E.2.2.2.2.2.2.2.1, E.2.2.2.2.2.2.2.2.1, E.2.2.2.2.2.2.2.2.2.1, E.2.2.2.2.2.2.2.2.2.2).2.2.2.2.2.2.1 + 1), va_up T ((E.1, E.2.1, E.2.2.1, E.2.2.2.1, E.2.2.2.2.1, E.2.2.2.2.2.1, C.2.2.2.2.2.2.1, E.2.2.2.2.2.2.2.1, E.2.2.2.2.2.2.2.2.1, E.2.2.2.2.2.2.2.2.2.1, E.2.2.2.2.2.2.2.2.2.2).2.2.2.2.2.2.1) (0, nI 0, a, b, Y.1, (Y.1 + (nI m)), q, kCosts 0 q)).2), bKd Γ k, bYr Γ z Z] H := hP
  have hD : bD AA [bTT Γ t s x V, bSt Γ s c y p pc, bCo Γ c k C, bYr Γ y Y, bSt Γ x d z p2 pc2, bCo Γ d k ((coSetTc (E.1, E.2.1, E.2.2.1, E.2.2.2.1, E.2.2.2.2.1, E.2.2.2.2.2.1, C.2.2.2.2.2.2.1, E.2.2.2.2.2.2.2.1, E.2.2.2.2.2.2.2.2.1, E.2.2.2.2.2.2.2.2.2.1, E.2.2.2.2.2.2.2.2.2.2) ((E.1, E.2.1, E.2.2.1, E.2.2.2.1, E.2.2.2.2.1, E.2.2.2.2.2.1, C.2.2.2.2.2.2.1, E.2.2.2.2.2.2.2.1, E.2.2.2.2.2.2.2.2.1, E.2.2.2.2.2.2.2.2.2.1, E.2.2.2.2.2.2.2.2.2.2).2.2.2.2.2.2.1 + 1), va_up T ((E.1, E.2.1, E.2.2.1, E.2.2.2.1, E.2.2.2.2.1, E.2.2.2.2.2.1, C.2.2.2.2.2.2.1, E.2.2.2.2.2.2.2.1, E.2.2.2.2.2.2.2.2.1, E.2.2.2.2.2.2.2.2.2.1, E.2.2.2.2.2.2.2.2.2.2).2.2.2.2.2.2.1) (0, nI 0, a, b, Y.1, (Y.1 + (nI m)), q, kCosts 0 q)).1), bTs Γ d k ((coSetTc (E.1, E.2.1, E.2.2.1, E.2.2.2.1, E.2.2.2.2.1, E.2.2.2.2.2.1, C.2.2.2.2.2.2.1, E.2.2.2.2.2.2.2.1, E.2.2.2.2.2.2.2.2.1, E.2.2.2.2.2.2.2.2.2.1, E.2.2.2.2.2.2.2.2.2.2) ((E.1, E.2.1, E.2.2.1, E.2.2.2.1, E.2.2.2.2.1, E.2.2.2.2.2.1, C.2.2.2.2.2.2.1, E.2.2.2.2.2.2.2.1, E.2.2.2.2.2.2.2.2.1, E.2.2.2.2.2.2.2.2.2.1, E.2.2.2.2.2.2.2.2.2.2).2.2.2.2.2.2.1 + 1), va_up T ((E.1, E.2.1, E.2.2.1, E.2.2.2.1, E.2.2.2.2.1, E.2.2.2.2.2.1, C.2.2.2.2.2.2.1, E.2.2.2.2.2.2.2.1, E.2.2.2.2.2.2.2.2.1, E.2.2.2.2.2.2.2.2.2.1, E.2.2.2.2.2.2.2.2.2.2).2.2.2.2.2.2.1) (0, nI 0, a, b, Y.1, (Y.1 + (nI m)), q, kCosts 0 q)).2), bKd Γ k, bYr Γ z Z] := hD
  refine lv_istore (lv' := [(6, .int (nI ((E.1, E.2.1, E.2.2.1, E.2.2.2.1, E.2.2.2.2.1, E.2.2.2.2.2.1, C.2.2.2.2.2.2.1, E.2.2.2.2.2.2.2.1, E.2.2.2.2.2.2.2.2.1, E.2.2.2.2.2.2.2.2.2.1, E.2.2.2.2.2.2.2.2.2.2).2.2.2.2.2.2.1))), (5, .int Y.1), (0, .ref (t 0)), (1, .int a), (2, .int b), (3, .int (nI m)), (4, .int q)]) zx zb dX11_isKept_53 hl (by decide) rfl (fun ls hl => ?_)
  refine lv_aload_n zx zb dX11_isKept_55 rfl (lv_at hl 2 rfl) ?_
  refine g_get (v := .ref (x 0)) XX hP 0 0 rfl rfl rfl iwX11 1 (by decide) fl_X11_36 rfl dX11_isKept_56 ?_
  refine g_get (v := .ref (z 0)) XX hP 4 0 rfl rfl rfl iwX8 1 (by decide) fl_X11_82 rfl dX11_isKept_59 ?_
  refine lv_aload_n zx zb dX11_isKept_62 rfl (lv_at hl 2 rfl) ?_
  refine g_get (v := .ref (s 0)) XX hP 0 0 rfl rfl rfl iwX11 0 (by decide) fl_X11_30 rfl dX11_isKept_63 ?_
  refine g_get (v := .ref (y 0)) XX hP 1 0 rfl rfl rfl iwX8 1 (by decide) fl_X11_82 rfl dX11_isKept_66 ?_
  refine call_Vv (As := [.ref (y 0)]) (rest := []) XX cv_X11_142 (c_X10_copyOf Γ l z Z y Y ) hP hD hS hA [8, 3] (by decide) rfl (fun _ => rfl) 8 0 rfl rfl rfl rfl hl.1 rfl ⟨⟨by decide, by decide⟩, by decide, by decide⟩ (Nat.le_of_ble_eq_true rfl) dX11_isKept_69 (fun u H locs hw hP hD hS => ?_)
  have hw := hw.symm
  subst hw
  have hP : bP Γ [bTT Γ t s x V, bSt Γ s c y p pc, bCo Γ c k C, bYr Γ y Y, bSt Γ x d z p2 pc2, bCo Γ d k ((coSetTc (E.1, E.2.1, E.2.2.1, E.2.2.2.1, E.2.2.2.2.1, E.2.2.2.2.2.1, C.2.2.2.2.2.2.1, E.2.2.2.2.2.2.2.1, E.2.2.2.2.2.2.2.2.1, E.2.2.2.2.2.2.2.2.2.1, E.2.2.2.2.2.2.2.2.2.2) ((E.1, E.2.1, E.2.2.1, E.2.2.2.1, E.2.2.2.2.1, E.2.2.2.2.2.1, C.2.2.2.2.2.2.1, E.2.2.2.2.2.2.2.1, E.2.2.2.2.2.2.2.2.1, E.2.2.2.2.2.2.2.2.2.1, E.2.2.2.2.2.2.2.2.2.2).2.2.2.2.2.2.1 + 1), va_up T ((E.1, E.2.1, E.2.2.1, E.2.2.2.1, E.2.2.2.2.1, E.2.2.2.2.2.1, C.2.2.2.2.2.2.1, E.2.2.2.2.2.2.2.1, E.2.2.2.2.2.2.2.2.1, E.2.2.2.2.2.2.2.2.2.1, E.2.2.2.2.2.2.2.2.2.2).2.2.2.2.2.2.1) (0, nI 0, a, b, Y.1, (Y.1 + (nI m)), q, kCosts 0 q)).1), bTs Γ d k ((coSetTc (E.1, E.2.1, E.2.2.1, E.2.2.2.1, E.2.2.2.2.1, E.2.2.2.2.2.1, C.2.2.2.2.2.2.1, E.2.2.2.2.2.2.2.1, E.2.2.2.2.2.2.2.2.1, E.2.2.2.2.2.2.2.2.2.1, E.2.2.2.2.2.2.2.2.2.2) ((E.1, E.2.1, E.2.2.1, E.2.2.2.1, E.2.2.2.2.1, E.2.2.2.2.2.1, C.2.2.2.2.2.2.1, E.2.2.2.2.2.2.2.1, E.2.2.2.2.2.2.2.2.1, E.2.2.2.2.2.2.2.2.2.1, E.2.2.2.2.2.2.2.2.2.2).2.2.2.2.2.2.1 + 1), va_up T ((E.1, E.2.1, E.2.2.1, E.2.2.2.1, E.2.2.2.2.1, E.2.2.2.2.2.1, C.2.2.2.2.2.2.1, E.2.2.2.2.2.2.2.1, E.2.2.2.2.2.2.2.2.1, E.2.2.2.2.2.2.2.2.2.1, E.2.2.2.2.2.2.2.2.2.2).2.2.2.2.2.2.1) (0, nI 0, a, b, Y.1, (Y.1 + (nI m)), q, kCosts 0 q)).2), bKd Γ k, bYr Γ z Y] H := hP
  have hD : bD AA [bTT Γ t s x V, bSt Γ s c y p pc, bCo Γ c k C, bYr Γ y Y, bSt Γ x d z p2 pc2, bCo Γ d k ((coSetTc (E.1, E.2.1, E.2.2.1, E.2.2.2.1, E.2.2.2.2.1, E.2.2.2.2.2.1, C.2.2.2.2.2.2.1, E.2.2.2.2.2.2.2.1, E.2.2.2.2.2.2.2.2.1, E.2.2.2.2.2.2.2.2.2.1, E.2.2.2.2.2.2.2.2.2.2) ((E.1, E.2.1, E.2.2.1, E.2.2.2.1, E.2.2.2.2.1, E.2.2.2.2.2.1, C.2.2.2.2.2.2.1, E.2.2.2.2.2.2.2.1, E.2.2.2.2.2.2.2.2.1, E.2.2.2.2.2.2.2.2.2.1, E.2.2.2.2.2.2.2.2.2.2).2.2.2.2.2.2.1 + 1), va_up T ((E.1, E.2.1, E.2.2.1, E.2.2.2.1, E.2.2.2.2.1, E.2.2.2.2.2.1, C.2.2.2.2.2.2.1, E.2.2.2.2.2.2.2.1, E.2.2.2.2.2.2.2.2.1, E.2.2.2.2.2.2.2.2.2.1, E.2.2.2.2.2.2.2.2.2.2).2.2.2.2.2.2.1) (0, nI 0, a, b, Y.1, (Y.1 + (nI m)), q, kCosts 0 q)).1), bTs Γ d k ((coSetTc (E.1, E.2.1, E.2.2.1, E.2.2.2.1, E.2.2.2.2.1, E.2.2.2.2.2.1, C.2.2.2.2.2.2.1, E.2.2.2.2.2.2.2.1, E.2.2.2.2.2.2.2.2.1, E.2.2.2.2.2.2.2.2.2.1, E.2.2.2.2.2.2.2.2.2.2) ((E.1, E.2.1, E.2.2.1, E.2.2.2.1, E.2.2.2.2.1, E.2.2.2.2.2.1, C.2.2.2.2.2.2.1, E.2.2.2.2.2.2.2.1, E.2.2.2.2.2.2.2.2.1, E.2.2.2.2.2.2.2.2.2.1, E.2.2.2.2.2.2.2.2.2.2).2.2.2.2.2.2.1 + 1), va_up T ((E.1, E.2.1, E.2.2.1, E.2.2.2.1, E.2.2.2.2.1, E.2.2.2.2.2.1, C.2.2.2.2.2.2.1, E.2.2.2.2.2.2.2.1, E.2.2.2.2.2.2.2.2.1, E.2.2.2.2.2.2.2.2.2.1, E.2.2.2.2.2.2.2.2.2.2).2.2.2.2.2.2.1) (0, nI 0, a, b, Y.1, (Y.1 + (nI m)), q, kCosts 0 q)).2), bKd Γ k, bYr Γ z Y] := hD
  refine lv_iconst (v := nI 0) zx zb dX11_isKept_72 (by decide) ?_
  refine lv_istore (lv' := [(7, .int (nI 0)), (6, .int (nI ((E.1, E.2.1, E.2.2.1, E.2.2.2.1, E.2.2.2.2.1, E.2.2.2.2.2.1, C.2.2.2.2.2.2.1, E.2.2.2.2.2.2.2.1, E.2.2.2.2.2.2.2.2.1, E.2.2.2.2.2.2.2.2.2.1, E.2.2.2.2.2.2.2.2.2.2).2.2.2.2.2.2.1))), (5, .int Y.1), (0, .ref (t 0)), (1, .int a), (2, .int b), (3, .int (nI m)), (4, .int q)]) zx zb dX11_isKept_73 hl (by decide) rfl (fun ls hl => ?_)
  have L75 : ∀ (nn : Nat) (i : Nat) (Q : YrV), (i ≤ m) → (Q = runM (coSetTc E (coTc C + 1)) (offT T (coTc C) a b Y.1 (Y.1 + nI m) q) Y i) → (allN (keptP (coSetTc E (coTc C + 1)) (offT T (coTc C) a b Y.1 (Y.1 + nI m) q) Y (coTc C)) i = true) → m - i < nn → ∀ (H : Heap) (locs : List Loc), bP Γ [bTT Γ t s x V, bSt Γ s c y p pc, bCo Γ c k C, bYr Γ y Y, bSt Γ x d z p2 pc2, bCo Γ d k (coSetTc E (coTc C + 1)), bTs Γ d k (offT T (coTc C) a b Y.1 (Y.1 + nI m) q), bKd Γ k, bYr Γ z Q] H → bD AA [bTT Γ t s x V, bSt Γ s c y p pc, bCo Γ c k C, bYr Γ y Y, bSt Γ x d z p2 pc2, bCo Γ d k (coSetTc E (coTc C + 1)), bTs Γ d k (offT T (coTc C) a b Y.1 (Y.1 + nI m) q), bKd Γ k, bYr Γ z Q] → va_S AA ss.heap H locs → ∀ (ls : Array Slot), lv_has ls 8 [(0, .ref (t 0)), (3, .int (nI m)), (6, .int (nI (C.2.2.2.2.2.2.1))), (7, .int (nI i))] → W pp l ee { frames := 5, cells := 0, slots := 0, locals := 114 } ss mm [.ref (t 0), .int a, .int b, .int (nI m), .int q].toArray bb me cd H locs 0 0 QQ (F0 mm 75 ls []) := by
    intro nn
    induction nn with
    | zero => intro i Q hi hQ ha hm; exact absurd hm (Nat.not_lt_zero _)
    | succ nn ih75 =>
      intro i Q hi hQ ha hm75 H locs hP hD hS ls hl
      refine lv_iload zx zb dX11_isKept_75 (lv_at hl 3 rfl) ?_
      refine lv_iload_n zx zb dX11_isKept_77 rfl (lv_at hl 1 rfl) ?_
      refine lv_icmp_ge (tgt := 116) zx zb dX11_isKept_78 (by decide) (fun c_78 => ?_) (fun c_78 => ?_)
      · have c_78 : m ≤ i := (nI_leI (a := m) (b := i) (by omega) (by omega)).mp c_78
        refine lv_iconst (v := nI 1) zx zb dX11_isKept_116 (by decide) ?_
        exact fin _ _ (nI 1) (coSetTc E (coTc C + 1), offT T (coTc C) a b Y.1 (Y.1 + nI m) q, Q) 117 _ dX11_isKept_117 (fun _ => nar1) (by have e : i = m := (by omega); subst e; exact ⟨retT ha, rfl, rfl⟩) hP hD hS
      · have c_78 : ¬ (m ≤ i) := fun h => c_78 ((nI_leI (a := m) (b := i) (by omega) (by omega)).mpr h)
        refine lv_aload_n zx zb dX11_isKept_81 rfl (lv_at hl 0 rfl) ?_
        refine lv_aload_n zx zb dX11_isKept_82 rfl (lv_at hl 0 rfl) ?_
        refine g_get (v := .ref (x 0)) XX hP 0 0 rfl rfl rfl iwX11 1 (by decide) fl_X11_36 rfl dX11_isKept_83 ?_
        refine g_get (v := .ref (d 0)) XX hP 4 0 rfl rfl rfl iwX8 0 (by decide) fl_X11_100 rfl dX11_isKept_86 ?_
        refine call_Vi (As := [.ref (d 0)]) (rest := []) XX cv_X11_206 (c_X11_runAhead Γ l t s x V d k (coSetTc E (coTc C + 1)) (offT T (coTc C) a b Y.1 (Y.1 + nI m) q) d z p2 pc2 Q (hn) (show coTc C + 1 ≤ 6 from htc) (hkd_up hkd (show 0 < 6 by decide))) hP hD hS hA [0, 4, 5, 6, 7, 8] (by decide) rfl (fun _ => rfl) 0 0 rfl rfl rfl rfl hl.1 rfl ⟨⟨by decide, by decide⟩, by decide, by decide⟩ (Nat.le_of_ble_eq_true rfl) dX11_isKept_89 (fun r_89 u H locs hw hP hD hS => ?_)
        obtain ⟨hw1, hw2⟩ := hw
        have hw1 := hw1.symm
        have hw2 := hw2.symm
        subst hw1
        subst hw2
        have hP : bP Γ [bTT Γ t s x V, bSt Γ s c y p pc, bCo Γ c k C, bYr Γ y Y, bSt Γ x d z p2 pc2, bCo Γ d k (coSetTc E (coTc C + 1)), bTs Γ d k (offT T (coTc C) a b Y.1 (Y.1 + nI m) q), bKd Γ k, bYr Γ z (coNext (coSetTc E (coTc C + 1)) (offT T (coTc C) a b Y.1 (Y.1 + nI m) q) Q)] H := hP
        have hD : bD AA [bTT Γ t s x V, bSt Γ s c y p pc, bCo Γ c k C, bYr Γ y Y, bSt Γ x d z p2 pc2, bCo Γ d k (coSetTc E (coTc C + 1)), bTs Γ d k (offT T (coTc C) a b Y.1 (Y.1 + nI m) q), bKd Γ k, bYr Γ z (coNext (coSetTc E (coTc C + 1)) (offT T (coTc C) a b Y.1 (Y.1 + nI m) q) Q)] := hD
        refine lv_pop zx zb dX11_isKept_92 rfl ?_
        refine lv_aload_n zx zb dX11_isKept_93 rfl (lv_at hl 0 rfl) ?_
        refine g_get (v := .ref (x 0)) XX hP 0 0 rfl rfl rfl iwX11 1 (by decide) fl_X11_36 rfl dX11_isKept_94 ?_
        refine g_get (v := .ref (z 0)) XX hP 4 0 rfl rfl rfl iwX8 1 (by decide) fl_X11_82 rfl dX11_isKept_97 ?_
        refine lv_iload zx zb dX11_isKept_100 (lv_at hl 2 rfl) ?_
        refine call_Vi (As := [.int (nI (C.2.2.2.2.2.2.1))]) (rest := []) XX cv_X11_197 (c_X10_isBreached Γ l z (coNext (coSetTc E (coTc C + 1)) (offT T (coTc C) a b Y.1 (Y.1 + nI m) q) Q) C.2.2.2.2.2.2.1 (by omega)) hP hD hS hA [8] (by decide) rfl (fun _ => rfl) 8 0 rfl rfl rfl rfl hl.1 rfl ⟨⟨by decide, by decide⟩, by decide, by decide⟩ (Nat.le_of_ble_eq_true rfl) dX11_isKept_102 (fun r_102 u H locs hw hP hD hS => ?_)
        have hw := hw.symm
        subst hw
        have hP : bP Γ [bTT Γ t s x V, bSt Γ s c y p pc, bCo Γ c k C, bYr Γ y Y, bSt Γ x d z p2 pc2, bCo Γ d k (coSetTc E (coTc C + 1)), bTs Γ d k (offT T (coTc C) a b Y.1 (Y.1 + nI m) q), bKd Γ k, bYr Γ z (coNext (coSetTc E (coTc C + 1)) (offT T (coTc C) a b Y.1 (Y.1 + nI m) q) Q)] H := hP
        have hD : bD AA [bTT Γ t s x V, bSt Γ s c y p pc, bCo Γ c k C, bYr Γ y Y, bSt Γ x d z p2 pc2, bCo Γ d k (coSetTc E (coTc C + 1)), bTs Γ d k (offT T (coTc C) a b Y.1 (Y.1 + nI m) q), bKd Γ k, bYr Γ z (coNext (coSetTc E (coTc C + 1)) (offT T (coTc C) a b Y.1 (Y.1 + nI m) q) Q)] := hD
        refine lv_if_eq (tgt := 110) zx zb dX11_isKept_105 (by decide) (fun c_105 => ?_) (fun c_105 => ?_)
        · have c_105 : (yrBr (coNext (coSetTc E (coTc C + 1)) (offT T (coTc C) a b Y.1 (Y.1 + nI m) q) Q) C.2.2.2.2.2.2.1) = false := bI_0.mp c_105
          refine lv_iinc (v := nI (i + 1)) (lv' := [(7, .int (nI (i + 1))), (0, .ref (t 0)), (3, .int (nI m)), (6, .int (nI (C.2.2.2.2.2.2.1)))]) zx zb dX11_isKept_110 hl (k := 3) rfl (nI_inc _ 1) (by decide) rfl (fun ls hl => ?_)
          refine lv_goto (tgt := 75) zx zb dX11_isKept_113 (by decide) ?_
          exact ih75 (i + 1) (coNext (coSetTc E (coTc C + 1)) (offT T (coTc C) a b Y.1 (Y.1 + nI m) q) Q) (by omega) (by rw [runM, ← hQ]) (by rw [allN, ha, Bool.true_and]; unfold keptP; rw [runM, ← hQ, c_105]; rfl) (by omega) _ _ hP hD hS _ (lv_sub hl [1, 2, 3, 0] rfl)
        · have c_105 : (yrBr (coNext (coSetTc E (coTc C + 1)) (offT T (coTc C) a b Y.1 (Y.1 + nI m) q) Q) C.2.2.2.2.2.2.1) = true := bI_ne c_105
          refine lv_iconst (v := nI 0) zx zb dX11_isKept_108 (by decide) ?_
          exact fin _ _ (nI 0) ((coSetTc E (coTc C + 1)), (offT T (coTc C) a b Y.1 (Y.1 + nI m) q), (coNext (coSetTc E (coTc C + 1)) (offT T (coTc C) a b Y.1 (Y.1 + nI m) q) Q)) 109 _ dX11_isKept_109 (fun _ => nar0) (⟨retF (allN_f (i := i) (by omega) (by unfold keptP; rw [runM, ← hQ, c_105]; rfl)), rfl, rfl⟩) hP hD hS
  exact L75 _ 0 Y (by omega) (rfl) (rfl) (Nat.lt_succ_self _) _ _ hP hD hS _ (lv_sub hl [3, 6, 1, 0] rfl)

set_option maxHeartbeats 4000000 in
set_option maxRecDepth 100000 in
theorem c_X11_offer (Γ : GG) (l : Launch) (t : Nat → Nat) (s : Nat → Nat) (x : Nat → Nat) (V : V3) (c : Nat → Nat) (k : Nat → Nat) (y : Nat → Nat) (p : Nat → Nat → Nat) (pc : Nat) (C : CoV) (tr : Nat → TrV) (Y : YrV) (d : Nat → Nat) (z : Nat → Nat) (p2 : Nat → Nat → Nat) (pc2 : Nat) (Z : YrV) (E : CoV) (T : Nat → TrV) (a : Int32) (b : Int32) (m : Int32) (w : Int32) (hn : C.1 ≤ 8) (htc : C.2.2.2.2.2.2.1 ≤ 6) (hkd : ∀ i, i < 6 → (tr i).1 < 6) (hkT : ∀ i, i < 6 → (T i).1 < 6) : Ci Γ l yX11_offer cX11_offer 6 (some (.int)) 6 141 0 0 [.ref (t 0), .int a, .int b, .int m, .int w] [bTT Γ t s x V, bSt Γ s c y p pc, bCo Γ c k C, bTs Γ c k tr, bKd Γ k, bYr Γ y Y, bSt Γ x d z p2 pc2, bCo Γ d k E, bTs Γ d k T, bYr Γ z Z] (fun (r : Int32) (u : V3 × CoV × (Nat → TrV) × YrV) => (r = offR C tr Y a b m w ∧ u.1 = offW V C a b m w) ∧ (∀ i, i < 6 → (u.2.2.1 i).1 < 6)) (fun (u : V3 × CoV × (Nat → TrV) × YrV) => [bTT Γ t s x u.1, bSt Γ s c y p pc, bCo Γ c k C, bTs Γ c k tr, bKd Γ k, bYr Γ y Y, bSt Γ x d z p2 pc2, bCo Γ d k u.2.1, bTs Γ d k u.2.2.1, bYr Γ z u.2.2.2]) := by
  refine Ci.of (Or.inl rfl) (by decide) (Nat.le_of_ble_eq_true rfl) ?_
  intro pp ee ss mm bb me cd AA QQ XX hnm hA hP hD fin ls hl
  obtain ⟨zx, zb, hml, hown, hts, hK⟩ := id XX
  have hS : va_S AA ss.heap ss.heap [] := va_S.rf
  have hl : lv_has ls 6 [(0, .ref (t 0)), (1, .int a), (2, .int b), (3, .int m), (4, .int w)] := hl
  refine lv_aload_n zx zb dX11_offer_0 rfl (lv_at hl 0 rfl) ?_
  refine lv_iload_n zx zb dX11_offer_1 rfl (lv_at hl 1 rfl) ?_
  refine call_Vi (As := [.int a]) (rest := []) XX cv_X11_159 (c_X11_isCell Γ l t s x V c k y p pc C a ) hP hD hS hA [0, 1, 2] (by decide) rfl (fun _ => rfl) 0 0 rfl rfl rfl rfl hl.1 rfl ⟨⟨by decide, by decide⟩, by decide, by decide⟩ (Nat.le_of_ble_eq_true rfl) dX11_offer_2 (fun r_2 u H locs hw hP hD hS => ?_)
  have hw := hw.symm
  subst hw
  have hP : bP Γ [bTT Γ t s x V, bSt Γ s c y p pc, bCo Γ c k C, bTs Γ c k tr, bKd Γ k, bYr Γ y Y, bSt Γ x d z p2 pc2, bCo Γ d k E, bTs Γ d k T, bYr Γ z Z] H := hP
  have hD : bD AA [bTT Γ t s x V, bSt Γ s c y p pc, bCo Γ c k C, bTs Γ c k tr, bKd Γ k, bYr Γ y Y, bSt Γ x d z p2 pc2, bCo Γ d k E, bTs Γ d k T, bYr Γ z Z] := hD
  refine lv_if_eq (tgt := 41) zx zb dX11_offer_5 (by decide) (fun c_5 => ?_) (fun c_5 => ?_)
  · have c_5 : (stCell C a) = false := bI_0.mp c_5
    refine lv_aload_n zx zb dX11_offer_41 rfl (lv_at hl 0 rfl) ?_
    refine lv_bipush (v := (-2)) zx zb dX11_offer_42 (by decide) ?_
    refine lv_sipush (v := (-1000)) zx zb dX11_offer_44 (by decide) ?_
    refine call_Vi (As := [.int (-2), .int (-1000)]) (rest := []) XX cv_X11_79 (c_X11_refused Γ l t s x V (-2) (-1000) ) hP hD hS hA [0] (by decide) rfl (fun _ => rfl) 0 0 rfl rfl rfl rfl hl.1 rfl ⟨⟨by decide, by decide⟩, by decide, by decide⟩ (Nat.le_of_ble_eq_true rfl) dX11_offer_47 (fun r_47 u H locs hw hP hD hS => ?_)
    obtain ⟨hw1, hw2⟩ := hw
    have hw1 := hw1.symm
    have hw2 := hw2.symm
    subst hw1
    subst hw2
    have hP : bP Γ [bTT Γ t s x (ttRef V (-2)), bSt Γ s c y p pc, bCo Γ c k C, bTs Γ c k tr, bKd Γ k, bYr Γ y Y, bSt Γ x d z p2 pc2, bCo Γ d k E, bTs Γ d k T, bYr Γ z Z] H := hP
    have hD : bD AA [bTT Γ t s x (ttRef V (-2)), bSt Γ s c y p pc, bCo Γ c k C, bTs Γ c k tr, bKd Γ k, bYr Γ y Y, bSt Γ x d z p2 pc2, bCo Γ d k E, bTs Γ d k T, bYr Γ z Z] := hD
    exact fin _ _ (-1000) ((ttRef V (-2)), E, T, Z) 50 _ dX11_offer_50 (fun h => by cases h) (⟨off_bad1 (tr := tr) (T := tr) (by unfold offOk; first | (simp only [c_5, Bool.false_and]; done) | (simp only [c_13, Bool.and_false, Bool.false_and]; done) | (simp only [decide_eq_false (Int32.not_le.mpr c_18), Bool.and_false, Bool.false_and]; done) | (simp only [c_28, Bool.and_false, Bool.false_and]; done) | (simp only [c_38, Bool.and_false]; done)), hkT⟩) hP hD hS
  · have c_5 : (stCell C a) = true := bI_ne c_5
    refine lv_aload_n zx zb dX11_offer_8 rfl (lv_at hl 0 rfl) ?_
    refine lv_iload_n zx zb dX11_offer_9 rfl (lv_at hl 2 rfl) ?_
    refine call_Vi (As := [.int b]) (rest := []) XX cv_X11_159 (c_X11_isCell Γ l t s x V c k y p pc C b ) hP hD hS hA [0, 1, 2] (by decide) rfl (fun _ => rfl) 0 0 rfl rfl rfl rfl hl.1 rfl ⟨⟨by decide, by decide⟩, by decide, by decide⟩ (Nat.le_of_ble_eq_true rfl) dX11_offer_10 (fun r_10 u H locs hw hP hD hS => ?_)
    have hw := hw.symm
    subst hw
    have hP : bP Γ [bTT Γ t s x V, bSt Γ s c y p pc, bCo Γ c k C, bTs Γ c k tr, bKd Γ k, bYr Γ y Y, bSt Γ x d z p2 pc2, bCo Γ d k E, bTs Γ d k T, bYr Γ z Z] H := hP
    have hD : bD AA [bTT Γ t s x V, bSt Γ s c y p pc, bCo Γ c k C, bTs Γ c k tr, bKd Γ k, bYr Γ y Y, bSt Γ x d z p2 pc2, bCo Γ d k E, bTs Γ d k T, bYr Γ z Z] := hD
    refine lv_if_eq (tgt := 41) zx zb dX11_offer_13 (by decide) (fun c_13 => ?_) (fun c_13 => ?_)
    · have c_13 : (stCell C b) = false := bI_0.mp c_13
      refine lv_aload_n zx zb dX11_offer_41 rfl (lv_at hl 0 rfl) ?_
      refine lv_bipush (v := (-2)) zx zb dX11_offer_42 (by decide) ?_
      refine lv_sipush (v := (-1000)) zx zb dX11_offer_44 (by decide) ?_
      refine call_Vi (As := [.int (-2), .int (-1000)]) (rest := []) XX cv_X11_79 (c_X11_refused Γ l t s x V (-2) (-1000) ) hP hD hS hA [0] (by decide) rfl (fun _ => rfl) 0 0 rfl rfl rfl rfl hl.1 rfl ⟨⟨by decide, by decide⟩, by decide, by decide⟩ (Nat.le_of_ble_eq_true rfl) dX11_offer_47 (fun r_47 u H locs hw hP hD hS => ?_)
      obtain ⟨hw1, hw2⟩ := hw
      have hw1 := hw1.symm
      have hw2 := hw2.symm
      subst hw1
      subst hw2
      have hP : bP Γ [bTT Γ t s x (ttRef V (-2)), bSt Γ s c y p pc, bCo Γ c k C, bTs Γ c k tr, bKd Γ k, bYr Γ y Y, bSt Γ x d z p2 pc2, bCo Γ d k E, bTs Γ d k T, bYr Γ z Z] H := hP
      have hD : bD AA [bTT Γ t s x (ttRef V (-2)), bSt Γ s c y p pc, bCo Γ c k C, bTs Γ c k tr, bKd Γ k, bYr Γ y Y, bSt Γ x d z p2 pc2, bCo Γ d k E, bTs Γ d k T, bYr Γ z Z] := hD
      exact fin _ _ (-1000) ((ttRef V (-2)), E, T, Z) 50 _ dX11_offer_50 (fun h => by cases h) (⟨off_bad1 (tr := tr) (T := tr) (by unfold offOk; first | (simp only [c_5, Bool.false_and]; done) | (simp only [c_13, Bool.and_false, Bool.false_and]; done) | (simp only [decide_eq_false (Int32.not_le.mpr c_18), Bool.and_false, Bool.false_and]; done) | (simp only [c_28, Bool.and_false, Bool.false_and]; done) | (simp only [c_38, Bool.and_false]; done)), hkT⟩) hP hD hS
    · have c_13 : (stCell C b) = true := bI_ne c_13
      refine lv_iload_n zx zb dX11_offer_16 rfl (lv_at hl 1 rfl) ?_
      refine lv_iload_n zx zb dX11_offer_17 rfl (lv_at hl 2 rfl) ?_
      refine lv_icmp_gt (tgt := 41) zx zb dX11_offer_18 (by decide) (fun c_18 => ?_) (fun c_18 => ?_)
      · have c_18 : b < a := c_18
        refine lv_aload_n zx zb dX11_offer_41 rfl (lv_at hl 0 rfl) ?_
        refine lv_bipush (v := (-2)) zx zb dX11_offer_42 (by decide) ?_
        refine lv_sipush (v := (-1000)) zx zb dX11_offer_44 (by decide) ?_
        refine call_Vi (As := [.int (-2), .int (-1000)]) (rest := []) XX cv_X11_79 (c_X11_refused Γ l t s x V (-2) (-1000) ) hP hD hS hA [0] (by decide) rfl (fun _ => rfl) 0 0 rfl rfl rfl rfl hl.1 rfl ⟨⟨by decide, by decide⟩, by decide, by decide⟩ (Nat.le_of_ble_eq_true rfl) dX11_offer_47 (fun r_47 u H locs hw hP hD hS => ?_)
        obtain ⟨hw1, hw2⟩ := hw
        have hw1 := hw1.symm
        have hw2 := hw2.symm
        subst hw1
        subst hw2
        have hP : bP Γ [bTT Γ t s x (ttRef V (-2)), bSt Γ s c y p pc, bCo Γ c k C, bTs Γ c k tr, bKd Γ k, bYr Γ y Y, bSt Γ x d z p2 pc2, bCo Γ d k E, bTs Γ d k T, bYr Γ z Z] H := hP
        have hD : bD AA [bTT Γ t s x (ttRef V (-2)), bSt Γ s c y p pc, bCo Γ c k C, bTs Γ c k tr, bKd Γ k, bYr Γ y Y, bSt Γ x d z p2 pc2, bCo Γ d k E, bTs Γ d k T, bYr Γ z Z] := hD
        exact fin _ _ (-1000) ((ttRef V (-2)), E, T, Z) 50 _ dX11_offer_50 (fun h => by cases h) (⟨off_bad1 (tr := tr) (T := tr) (by unfold offOk; first | (simp only [c_5, Bool.false_and]; done) | (simp only [c_13, Bool.and_false, Bool.false_and]; done) | (simp only [decide_eq_false (Int32.not_le.mpr c_18), Bool.and_false, Bool.false_and]; done) | (simp only [c_28, Bool.and_false, Bool.false_and]; done) | (simp only [c_38, Bool.and_false]; done)), hkT⟩) hP hD hS
      · have c_18 : ¬ (b < a) := c_18
        refine lv_iload_n zx zb dX11_offer_21 rfl (lv_at hl 3 rfl) ?_
        refine lv_iconst (v := nI 1) zx zb dX11_offer_22 (by decide) ?_
        refine lv_bipush (v := nI 12) zx zb dX11_offer_23 (by decide) ?_
        refine callR_Si (As := [.int m, .int (nI 1), .int (nI 12)]) (rest := []) XX cs_X11_75 (c_X11_within Γ l m 1 12 ) hP hD hS hA nil_mem nil_D rfl hl.1 rfl ⟨⟨by decide, by decide⟩, by decide, by decide⟩ (Nat.le_of_ble_eq_true rfl) dX11_offer_25 (fun r_25 H locs hw hP hS => ?_)
        have hw := hw.symm
        subst hw
        refine lv_if_eq (tgt := 41) zx zb dX11_offer_28 (by decide) (fun c_28 => ?_) (fun c_28 => ?_)
        · have c_28 : (wi m 1 12) = false := bI_0.mp c_28
          refine lv_aload_n zx zb dX11_offer_41 rfl (lv_at hl 0 rfl) ?_
          refine lv_bipush (v := (-2)) zx zb dX11_offer_42 (by decide) ?_
          refine lv_sipush (v := (-1000)) zx zb dX11_offer_44 (by decide) ?_
          refine call_Vi (As := [.int (-2), .int (-1000)]) (rest := []) XX cv_X11_79 (c_X11_refused Γ l t s x V (-2) (-1000) ) hP hD hS hA [0] (by decide) rfl (fun _ => rfl) 0 0 rfl rfl rfl rfl hl.1 rfl ⟨⟨by decide, by decide⟩, by decide, by decide⟩ (Nat.le_of_ble_eq_true rfl) dX11_offer_47 (fun r_47 u H locs hw hP hD hS => ?_)
          obtain ⟨hw1, hw2⟩ := hw
          have hw1 := hw1.symm
          have hw2 := hw2.symm
          subst hw1
          subst hw2
          have hP : bP Γ [bTT Γ t s x (ttRef V (-2)), bSt Γ s c y p pc, bCo Γ c k C, bTs Γ c k tr, bKd Γ k, bYr Γ y Y, bSt Γ x d z p2 pc2, bCo Γ d k E, bTs Γ d k T, bYr Γ z Z] H := hP
          have hD : bD AA [bTT Γ t s x (ttRef V (-2)), bSt Γ s c y p pc, bCo Γ c k C, bTs Γ c k tr, bKd Γ k, bYr Γ y Y, bSt Γ x d z p2 pc2, bCo Γ d k E, bTs Γ d k T, bYr Γ z Z] := hD
          exact fin _ _ (-1000) ((ttRef V (-2)), E, T, Z) 50 _ dX11_offer_50 (fun h => by cases h) (⟨off_bad1 (tr := tr) (T := tr) (by unfold offOk; first | (simp only [c_5, Bool.false_and]; done) | (simp only [c_13, Bool.and_false, Bool.false_and]; done) | (simp only [decide_eq_false (Int32.not_le.mpr c_18), Bool.and_false, Bool.false_and]; done) | (simp only [c_28, Bool.and_false, Bool.false_and]; done) | (simp only [c_38, Bool.and_false]; done)), hkT⟩) hP hD hS
        · have c_28 : (wi m 1 12) = true := bI_ne c_28
          refine lv_iload zx zb dX11_offer_31 (lv_at hl 4 rfl) ?_
          refine lv_iconst (v := nI 0) zx zb dX11_offer_33 (by decide) ?_
          refine lv_iconst (v := nI 1) zx zb dX11_offer_34 (by decide) ?_
          refine callR_Si (As := [.int w, .int (nI 0), .int (nI 1)]) (rest := []) XX cs_X11_75 (c_X11_within Γ l w 0 1 ) hP hD hS hA nil_mem nil_D rfl hl.1 rfl ⟨⟨by decide, by decide⟩, by decide, by decide⟩ (Nat.le_of_ble_eq_true rfl) dX11_offer_35 (fun r_35 H locs hw hP hS => ?_)
          have hw := hw.symm
          subst hw
          refine lv_if_ne (tgt := 51) zx zb dX11_offer_38 (by decide) (fun c_38 => ?_) (fun c_38 => ?_)
          · have c_38 : (wi w 0 1) = true := bI_ne c_38
            refine lv_aload_n zx zb dX11_offer_51 rfl (lv_at hl 0 rfl) ?_
            refine g_get (v := .ref (s 0)) XX hP 0 0 rfl rfl rfl iwX11 0 (by decide) fl_X11_30 rfl dX11_offer_52 ?_
            refine g_get (v := .ref (c 0)) XX hP 1 0 rfl rfl rfl iwX8 0 (by decide) fl_X11_100 rfl dX11_offer_55 ?_
            refine g_get (v := .int (nI (C.2.2.2.2.2.2.1))) XX hP 2 0 rfl rfl rfl iwX2 8 (by decide) fl_X11_216 rfl dX11_offer_58 ?_
            refine lv_bipush (v := nI 6) zx zb dX11_offer_61 (by decide) ?_
            refine lv_icmp_lt (tgt := 76) zx zb dX11_offer_63 (by decide) (fun c_63 => ?_) (fun c_63 => ?_)
            · have c_63 : C.2.2.2.2.2.2.1 < 6 := (nI_ltI (a := C.2.2.2.2.2.2.1) (b := 6) (by omega) (by omega)).mp c_63
              obtain ⟨j, hj, rfl⟩ := wi_nat 1 12 c_28 rfl rfl (by decide)
              refine lv_aload_n zx zb dX11_offer_76 rfl (lv_at hl 0 rfl) ?_
              refine g_get (v := .ref (x 0)) XX hP 0 0 rfl rfl rfl iwX11 1 (by decide) fl_X11_36 rfl dX11_offer_77 ?_
              refine g_get (v := .ref (d 0)) XX hP 6 0 rfl rfl rfl iwX8 0 (by decide) fl_X11_100 rfl dX11_offer_80 ?_
              refine lv_aload_n zx zb dX11_offer_83 rfl (lv_at hl 0 rfl) ?_
              refine g_get (v := .ref (s 0)) XX hP 0 0 rfl rfl rfl iwX11 0 (by decide) fl_X11_30 rfl dX11_offer_84 ?_
              refine g_get (v := .ref (c 0)) XX hP 1 0 rfl rfl rfl iwX8 0 (by decide) fl_X11_100 rfl dX11_offer_87 ?_
              refine call_Vv (As := [.ref (c 0)]) (rest := []) XX cv_X11_138 (c_X2_copyOf Γ l d k E T c C tr (htc)) hP hD hS hA [7, 8, 2, 3] (by decide) rfl (fun _ => rfl) 7 0 rfl rfl rfl rfl hl.1 rfl ⟨⟨by decide, by decide⟩, by decide, by decide⟩ (Nat.le_of_ble_eq_true rfl) dX11_offer_90 (fun u H locs hw hP hD hS => ?_)
              have hw := hw.symm
              subst hw
              have hP : bP Γ [bTT Γ t s x V, bSt Γ s c y p pc, bCo Γ c k C, bTs Γ c k tr, bKd Γ k, bYr Γ y Y, bSt Γ x d z p2 pc2, bCo Γ d k ((C, trCpy tr T (coTc C)).1), bTs Γ d k ((C, trCpy tr T (coTc C)).2), bYr Γ z Z] H := hP
              have hD : bD AA [bTT Γ t s x V, bSt Γ s c y p pc, bCo Γ c k C, bTs Γ c k tr, bKd Γ k, bYr Γ y Y, bSt Γ x d z p2 pc2, bCo Γ d k ((C, trCpy tr T (coTc C)).1), bTs Γ d k ((C, trCpy tr T (coTc C)).2), bYr Γ z Z] := hD
              refine lv_bipush (v := nI 20) zx zb dX11_offer_93 (by decide) ?_
              refine lv_istore (lv' := [(5, .int (nI 20)), (0, .ref (t 0)), (1, .int a), (2, .int b), (3, .int (nI j)), (4, .int w)]) zx zb dX11_offer_95 hl (by decide) rfl (fun ls hl => ?_)
              have L97 : ∀ (nn : Nat) (q : Nat) (F : CoV) (U : Nat → TrV) (Q : YrV), (q ≤ 20) → (∀ n, coSetTc F n = coSetTc C n) → (∀ i, i < coTc C → U i = tr i) → (∀ i, i < 6 → (U i).1 < 6) → (∀ i, q < i → i ≤ 20 → offK C tr Y a b j i = false) → q < nn → ∀ (H : Heap) (locs : List Loc), bP Γ [bTT Γ t s x V, bSt Γ s c y p pc, bCo Γ c k C, bTs Γ c k tr, bKd Γ k, bYr Γ y Y, bSt Γ x d z p2 pc2, bCo Γ d k F, bTs Γ d k U, bYr Γ z Q] H → bD AA [bTT Γ t s x V, bSt Γ s c y p pc, bCo Γ c k C, bTs Γ c k tr, bKd Γ k, bYr Γ y Y, bSt Γ x d z p2 pc2, bCo Γ d k F, bTs Γ d k U, bYr Γ z Q] → va_S AA ss.heap H locs → ∀ (ls : Array Slot), lv_has ls 6 [(0, .ref (t 0)), (1, .int a), (2, .int b), (3, .int (nI j)), (4, .int w), (5, .int (nI q))] → W pp l ee { frames := 6, cells := 0, slots := 0, locals := 141 } ss mm [.ref (t 0), .int a, .int b, .int (nI j), .int w].toArray bb me cd H locs 0 0 QQ (F0 mm 97 ls []) := by
                intro nn
                induction nn with
                | zero => intro q F U Q hq hF hU hkU hp hm; exact absurd hm (Nat.not_lt_zero _)
                | succ nn ih97 =>
                  intro q F U Q hq hF hU hkU hp hm97 H locs hP hD hS ls hl
                  refine lv_aload_n zx zb dX11_offer_97 rfl (lv_at hl 0 rfl) ?_
                  refine lv_iload_n zx zb dX11_offer_98 rfl (lv_at hl 1 rfl) ?_
                  refine lv_iload_n zx zb dX11_offer_99 rfl (lv_at hl 2 rfl) ?_
                  refine lv_iload_n zx zb dX11_offer_100 rfl (lv_at hl 3 rfl) ?_
                  refine lv_iload zx zb dX11_offer_101 (lv_at hl 5 rfl) ?_
                  refine call_Vi (As := [.int a, .int b, .int (nI j), .int (nI q)]) (rest := []) XX cv_X11_219 (c_X11_isKept Γ l t s x V c k y p pc C Y d z p2 pc2 Q F U a b j (nI q) (show F.1 ≤ 8 from (congrArg Prod.fst (hF 0)) ▸ hn) (by omega) (hkU) (by omega)) hP hD hS hA [0, 1, 2, 5, 6, 7, 8, 4, 9] (by decide) rfl (fun _ => rfl) 0 0 rfl rfl rfl rfl hl.1 rfl ⟨⟨by decide, by decide⟩, by decide, by decide⟩ (Nat.le_of_ble_eq_true rfl) dX11_offer_103 (fun r_103 u H locs hw hP hD hS => ?_)
                  obtain ⟨u_103, rfl⟩ : ∃ z, z = u := ⟨_, rfl⟩
                  have w_103 := hw
                  have hP : bP Γ [bTT Γ t s x V, bSt Γ s c y p pc, bCo Γ c k C, bTs Γ c k tr, bKd Γ k, bYr Γ y Y, bSt Γ x d z p2 pc2, bCo Γ d k u_103.1, bTs Γ d k u_103.2.1, bYr Γ z u_103.2.2] H := hP
                  have hD : bD AA [bTT Γ t s x V, bSt Γ s c y p pc, bCo Γ c k C, bTs Γ c k tr, bKd Γ k, bYr Γ y Y, bSt Γ x d z p2 pc2, bCo Γ d k u_103.1, bTs Γ d k u_103.2.1, bYr Γ z u_103.2.2] := hD
                  obtain ⟨w1, w2, w3⟩ := w_103
                  rw [w2, w3] at hP hD
                  have w1 := w1.symm
                  subst w1
                  have ek := offK_eq (a := a) (b := b) (m := j) (q := q) (Y := Y) hF hU
                  refine lv_if_ne (tgt := 120) zx zb dX11_offer_106 (by decide) (fun c_106 => ?_) (fun c_106 => ?_)
                  · have c_106 : (allN (keptP (coSetTc F (coTc C + 1)) (offT U (coTc C) a b Y.1 (Y.1 + nI j) (nI q)) Y (coTc C)) j) = true := bI_ne c_106
                    refine lv_iload zx zb dX11_offer_120 (lv_at hl 4 rfl) ?_
                    refine lv_if_ne (tgt := 130) zx zb dX11_offer_122 (by decide) (fun c_122 => ?_) (fun c_122 => ?_)
                    · have c_122 : ¬ (w = (0 : Int32)) := c_122
                      refine lv_aload_n zx zb dX11_offer_130 rfl (lv_at hl 0 rfl) ?_
                      refine lv_aload_n zx zb dX11_offer_131 rfl (lv_at hl 0 rfl) ?_
                      refine g_get (v := .ref (s 0)) XX hP 0 0 rfl rfl rfl iwX11 0 (by decide) fl_X11_30 rfl dX11_offer_132 ?_
                      refine g_get (v := .ref (c 0)) XX hP 1 0 rfl rfl rfl iwX8 0 (by decide) fl_X11_100 rfl dX11_offer_135 ?_
                      refine lv_iload_n zx zb dX11_offer_138 rfl (lv_at hl 3 rfl) ?_
                      refine call_Vi (As := [.ref (c 0), .int (nI j)]) (rest := []) XX cv_X11_223 (c_X11_floodings Γ l t s x V c k y p pc c C tr Y d z p2 pc2 u_103.2.2 j (hn) (htc) (hkd) (by omega)) hP hD hS hA [0, 1, 5, 6, 2, 3, 4, 9] (by decide) rfl (fun _ => rfl) 0 0 rfl rfl rfl rfl hl.1 rfl ⟨⟨by decide, by decide⟩, by decide, by decide⟩ (Nat.le_of_ble_eq_true rfl) dX11_offer_139 (fun r_139 u H locs hw hP hD hS => ?_)
                      obtain ⟨hw1, hw2⟩ := hw
                      have hw1 := hw1.symm
                      have hw2 := hw2.symm
                      subst hw1
                      subst hw2
                      have hP : bP Γ [bTT Γ t s x V, bSt Γ s c y p pc, bCo Γ c k C, bTs Γ c k tr, bKd Γ k, bYr Γ y Y, bSt Γ x d z p2 pc2, bCo Γ d k (coSetTc F (coTc C + 1)), bTs Γ d k (offT U (coTc C) a b Y.1 (Y.1 + nI j) (nI q)), bYr Γ z (runM C tr Y j)] H := hP
                      have hD : bD AA [bTT Γ t s x V, bSt Γ s c y p pc, bCo Γ c k C, bTs Γ c k tr, bKd Γ k, bYr Γ y Y, bSt Γ x d z p2 pc2, bCo Γ d k (coSetTc F (coTc C + 1)), bTs Γ d k (offT U (coTc C) a b Y.1 (Y.1 + nI j) (nI q)), bYr Γ z (runM C tr Y j)] := hD
                      refine lv_aload_n zx zb dX11_offer_142 rfl (lv_at hl 0 rfl) ?_
                      refine lv_aload_n zx zb dX11_offer_143 rfl (lv_at hl 0 rfl) ?_
                      refine g_get (v := .ref (x 0)) XX hP 0 0 rfl rfl rfl iwX11 1 (by decide) fl_X11_36 rfl dX11_offer_144 ?_
                      refine g_get (v := .ref (d 0)) XX hP 6 0 rfl rfl rfl iwX8 0 (by decide) fl_X11_100 rfl dX11_offer_147 ?_
                      refine lv_iload_n zx zb dX11_offer_150 rfl (lv_at hl 3 rfl) ?_
                      refine call_Vi (As := [.ref (d 0), .int (nI j)]) (rest := [.int (popSum C tr Y j)]) XX cv_X11_223 (c_X11_floodings Γ l t s x V c k y p pc d (coSetTc F (coTc C + 1)) (offT U (coTc C) a b Y.1 (Y.1 + nI j) (nI q)) Y d z p2 pc2 (runM C tr Y j) j (show F.1 ≤ 8 from (congrArg Prod.fst (hF 0)) ▸ hn) (show coTc C + 1 ≤ 6 by show C.2.2.2.2.2.2.1 + 1 ≤ 6; omega) (hkd_up hkU (show 0 < 6 by decide)) (by omega)) hP hD hS hA [0, 1, 5, 6, 7, 8, 4, 9] (by decide) rfl (fun _ => rfl) 0 0 rfl rfl rfl rfl hl.1 rfl ⟨⟨by decide, by decide⟩, by decide, by decide⟩ (Nat.le_of_ble_eq_true rfl) dX11_offer_151 (fun r_151 u H locs hw hP hD hS => ?_)
                      obtain ⟨hw1, hw2⟩ := hw
                      have hw1 := hw1.symm
                      have hw2 := hw2.symm
                      subst hw1
                      subst hw2
                      have hP : bP Γ [bTT Γ t s x V, bSt Γ s c y p pc, bCo Γ c k C, bTs Γ c k tr, bKd Γ k, bYr Γ y Y, bSt Γ x d z p2 pc2, bCo Γ d k (coSetTc F (coTc C + 1)), bTs Γ d k (offT U (coTc C) a b Y.1 (Y.1 + nI j) (nI q)), bYr Γ z (runM (coSetTc F (coTc C + 1)) (offT U (coTc C) a b Y.1 (Y.1 + nI j) (nI q)) Y j)] H := hP
                      have hD : bD AA [bTT Γ t s x V, bSt Γ s c y p pc, bCo Γ c k C, bTs Γ c k tr, bKd Γ k, bYr Γ y Y, bSt Γ x d z p2 pc2, bCo Γ d k (coSetTc F (coTc C + 1)), bTs Γ d k (offT U (coTc C) a b Y.1 (Y.1 + nI j) (nI q)), bYr Γ z (runM (coSetTc F (coTc C + 1)) (offT U (coTc C) a b Y.1 (Y.1 + nI j) (nI q)) Y j)] := hD
                      refine lv_isub zx zb dX11_offer_154 ?_
                      exact fin _ _ ((popSum C tr Y j) - (popSum (coSetTc F (coTc C + 1)) (offT U (coTc C) a b Y.1 (Y.1 + nI j) (nI q)) Y j)) (V, (coSetTc F (coTc C + 1)), (offT U (coTc C) a b Y.1 (Y.1 + nI j) (nI q)), (runM (coSetTc F (coTc C + 1)) (offT U (coTc C) a b Y.1 (Y.1 + nI j) (nI q)) Y j)) 155 _ dX11_offer_155 (fun h => by cases h) (by first | exact ⟨off_end (by unfold offOk; simp only [c_5, c_13, c_28, c_38, decide_eq_true (Int32.not_lt.mp c_18)]; rfl) (by omega) (show coTc C < 6 by show C.2.2.2.2.2.2.1 < 6; omega) hF hU hp hq (Or.inl (ek ▸ c_106)) (by first | exact Or.inl ⟨c_122, rfl⟩ | exact Or.inr ⟨c_122, rfl⟩), hkd_up hkU (show 0 < 6 by decide)⟩ | exact ⟨off_end (by unfold offOk; simp only [c_5, c_13, c_28, c_38, decide_eq_true (Int32.not_lt.mp c_18)]; rfl) (by omega) (show coTc C < 6 by show C.2.2.2.2.2.2.1 < 6; omega) hF hU hp hq (Or.inr (by omega)) (by first | exact Or.inl ⟨c_122, rfl⟩ | exact Or.inr ⟨c_122, rfl⟩), hkd_up hkU (show 0 < 6 by decide)⟩) hP hD hS
                    · have c_122 : w = (0 : Int32) := c_122
                      refine lv_iload zx zb dX11_offer_125 (lv_at hl 5 rfl) ?_
                      refine lv_goto (tgt := 155) zx zb dX11_offer_127 (by decide) ?_
                      exact fin _ _ (nI q) (V, coSetTc F (coTc C + 1), offT U (coTc C) a b Y.1 (Y.1 + nI j) (nI q), u_103.2.2) 155 _ dX11_offer_155 (fun h => by cases h) (by first | exact ⟨off_end (by unfold offOk; simp only [c_5, c_13, c_28, c_38, decide_eq_true (Int32.not_lt.mp c_18)]; rfl) (by omega) (show coTc C < 6 by show C.2.2.2.2.2.2.1 < 6; omega) hF hU hp hq (Or.inl (ek ▸ c_106)) (by first | exact Or.inl ⟨c_122, rfl⟩ | exact Or.inr ⟨c_122, rfl⟩), hkd_up hkU (show 0 < 6 by decide)⟩ | exact ⟨off_end (by unfold offOk; simp only [c_5, c_13, c_28, c_38, decide_eq_true (Int32.not_lt.mp c_18)]; rfl) (by omega) (show coTc C < 6 by show C.2.2.2.2.2.2.1 < 6; omega) hF hU hp hq (Or.inr (by omega)) (by first | exact Or.inl ⟨c_122, rfl⟩ | exact Or.inr ⟨c_122, rfl⟩), hkd_up hkU (show 0 < 6 by decide)⟩) hP hD hS
                  · have c_106 : (allN (keptP (coSetTc F (coTc C + 1)) (offT U (coTc C) a b Y.1 (Y.1 + nI j) (nI q)) Y (coTc C)) j) = false := bI_0.mp c_106
                    refine lv_iload zx zb dX11_offer_109 (lv_at hl 5 rfl) ?_
                    refine lv_if_le (tgt := 120) zx zb dX11_offer_111 (by decide) (fun c_111 => ?_) (fun c_111 => ?_)
                    · have c_111 : q ≤ 0 := (nI_leI (a := q) (b := 0) (by omega) (by omega)).mp c_111
                      refine lv_iload zx zb dX11_offer_120 (lv_at hl 4 rfl) ?_
                      refine lv_if_ne (tgt := 130) zx zb dX11_offer_122 (by decide) (fun c_122 => ?_) (fun c_122 => ?_)
                      · have c_122 : ¬ (w = (0 : Int32)) := c_122
                        refine lv_aload_n zx zb dX11_offer_130 rfl (lv_at hl 0 rfl) ?_
                        refine lv_aload_n zx zb dX11_offer_131 rfl (lv_at hl 0 rfl) ?_
                        refine g_get (v := .ref (s 0)) XX hP 0 0 rfl rfl rfl iwX11 0 (by decide) fl_X11_30 rfl dX11_offer_132 ?_
                        refine g_get (v := .ref (c 0)) XX hP 1 0 rfl rfl rfl iwX8 0 (by decide) fl_X11_100 rfl dX11_offer_135 ?_
                        refine lv_iload_n zx zb dX11_offer_138 rfl (lv_at hl 3 rfl) ?_
                        refine call_Vi (As := [.ref (c 0), .int (nI j)]) (rest := []) XX cv_X11_223 (c_X11_floodings Γ l t s x V c k y p pc c C tr Y d z p2 pc2 u_103.2.2 j (hn) (htc) (hkd) (by omega)) hP hD hS hA [0, 1, 5, 6, 2, 3, 4, 9] (by decide) rfl (fun _ => rfl) 0 0 rfl rfl rfl rfl hl.1 rfl ⟨⟨by decide, by decide⟩, by decide, by decide⟩ (Nat.le_of_ble_eq_true rfl) dX11_offer_139 (fun r_139 u H locs hw hP hD hS => ?_)
                        obtain ⟨hw1, hw2⟩ := hw
                        have hw1 := hw1.symm
                        have hw2 := hw2.symm
                        subst hw1
                        subst hw2
                        have hP : bP Γ [bTT Γ t s x V, bSt Γ s c y p pc, bCo Γ c k C, bTs Γ c k tr, bKd Γ k, bYr Γ y Y, bSt Γ x d z p2 pc2, bCo Γ d k (coSetTc F (coTc C + 1)), bTs Γ d k (offT U (coTc C) a b Y.1 (Y.1 + nI j) (nI q)), bYr Γ z (runM C tr Y j)] H := hP
                        have hD : bD AA [bTT Γ t s x V, bSt Γ s c y p pc, bCo Γ c k C, bTs Γ c k tr, bKd Γ k, bYr Γ y Y, bSt Γ x d z p2 pc2, bCo Γ d k (coSetTc F (coTc C + 1)), bTs Γ d k (offT U (coTc C) a b Y.1 (Y.1 + nI j) (nI q)), bYr Γ z (runM C tr Y j)] := hD
                        refine lv_aload_n zx zb dX11_offer_142 rfl (lv_at hl 0 rfl) ?_
                        refine lv_aload_n zx zb dX11_offer_143 rfl (lv_at hl 0 rfl) ?_
                        refine g_get (v := .ref (x 0)) XX hP 0 0 rfl rfl rfl iwX11 1 (by decide) fl_X11_36 rfl dX11_offer_144 ?_
                        refine g_get (v := .ref (d 0)) XX hP 6 0 rfl rfl rfl iwX8 0 (by decide) fl_X11_100 rfl dX11_offer_147 ?_
                        refine lv_iload_n zx zb dX11_offer_150 rfl (lv_at hl 3 rfl) ?_
                        refine call_Vi (As := [.ref (d 0), .int (nI j)]) (rest := [.int (popSum C tr Y j)]) XX cv_X11_223 (c_X11_floodings Γ l t s x V c k y p pc d (coSetTc F (coTc C + 1)) (offT U (coTc C) a b Y.1 (Y.1 + nI j) (nI q)) Y d z p2 pc2 (runM C tr Y j) j (show F.1 ≤ 8 from (congrArg Prod.fst (hF 0)) ▸ hn) (show coTc C + 1 ≤ 6 by show C.2.2.2.2.2.2.1 + 1 ≤ 6; omega) (hkd_up hkU (show 0 < 6 by decide)) (by omega)) hP hD hS hA [0, 1, 5, 6, 7, 8, 4, 9] (by decide) rfl (fun _ => rfl) 0 0 rfl rfl rfl rfl hl.1 rfl ⟨⟨by decide, by decide⟩, by decide, by decide⟩ (Nat.le_of_ble_eq_true rfl) dX11_offer_151 (fun r_151 u H locs hw hP hD hS => ?_)
                        obtain ⟨hw1, hw2⟩ := hw
                        have hw1 := hw1.symm
                        have hw2 := hw2.symm
                        subst hw1
                        subst hw2
                        have hP : bP Γ [bTT Γ t s x V, bSt Γ s c y p pc, bCo Γ c k C, bTs Γ c k tr, bKd Γ k, bYr Γ y Y, bSt Γ x d z p2 pc2, bCo Γ d k (coSetTc F (coTc C + 1)), bTs Γ d k (offT U (coTc C) a b Y.1 (Y.1 + nI j) (nI q)), bYr Γ z (runM (coSetTc F (coTc C + 1)) (offT U (coTc C) a b Y.1 (Y.1 + nI j) (nI q)) Y j)] H := hP
                        have hD : bD AA [bTT Γ t s x V, bSt Γ s c y p pc, bCo Γ c k C, bTs Γ c k tr, bKd Γ k, bYr Γ y Y, bSt Γ x d z p2 pc2, bCo Γ d k (coSetTc F (coTc C + 1)), bTs Γ d k (offT U (coTc C) a b Y.1 (Y.1 + nI j) (nI q)), bYr Γ z (runM (coSetTc F (coTc C + 1)) (offT U (coTc C) a b Y.1 (Y.1 + nI j) (nI q)) Y j)] := hD
                        refine lv_isub zx zb dX11_offer_154 ?_
                        exact fin _ _ ((popSum C tr Y j) - (popSum (coSetTc F (coTc C + 1)) (offT U (coTc C) a b Y.1 (Y.1 + nI j) (nI q)) Y j)) (V, (coSetTc F (coTc C + 1)), (offT U (coTc C) a b Y.1 (Y.1 + nI j) (nI q)), (runM (coSetTc F (coTc C + 1)) (offT U (coTc C) a b Y.1 (Y.1 + nI j) (nI q)) Y j)) 155 _ dX11_offer_155 (fun h => by cases h) (by first | exact ⟨off_end (by unfold offOk; simp only [c_5, c_13, c_28, c_38, decide_eq_true (Int32.not_lt.mp c_18)]; rfl) (by omega) (show coTc C < 6 by show C.2.2.2.2.2.2.1 < 6; omega) hF hU hp hq (Or.inl (ek ▸ c_106)) (by first | exact Or.inl ⟨c_122, rfl⟩ | exact Or.inr ⟨c_122, rfl⟩), hkd_up hkU (show 0 < 6 by decide)⟩ | exact ⟨off_end (by unfold offOk; simp only [c_5, c_13, c_28, c_38, decide_eq_true (Int32.not_lt.mp c_18)]; rfl) (by omega) (show coTc C < 6 by show C.2.2.2.2.2.2.1 < 6; omega) hF hU hp hq (Or.inr (by omega)) (by first | exact Or.inl ⟨c_122, rfl⟩ | exact Or.inr ⟨c_122, rfl⟩), hkd_up hkU (show 0 < 6 by decide)⟩) hP hD hS
                      · have c_122 : w = (0 : Int32) := c_122
                        refine lv_iload zx zb dX11_offer_125 (lv_at hl 5 rfl) ?_
                        refine lv_goto (tgt := 155) zx zb dX11_offer_127 (by decide) ?_
                        exact fin _ _ (nI q) (V, coSetTc F (coTc C + 1), offT U (coTc C) a b Y.1 (Y.1 + nI j) (nI q), u_103.2.2) 155 _ dX11_offer_155 (fun h => by cases h) (by first | exact ⟨off_end (by unfold offOk; simp only [c_5, c_13, c_28, c_38, decide_eq_true (Int32.not_lt.mp c_18)]; rfl) (by omega) (show coTc C < 6 by show C.2.2.2.2.2.2.1 < 6; omega) hF hU hp hq (Or.inl (ek ▸ c_106)) (by first | exact Or.inl ⟨c_122, rfl⟩ | exact Or.inr ⟨c_122, rfl⟩), hkd_up hkU (show 0 < 6 by decide)⟩ | exact ⟨off_end (by unfold offOk; simp only [c_5, c_13, c_28, c_38, decide_eq_true (Int32.not_lt.mp c_18)]; rfl) (by omega) (show coTc C < 6 by show C.2.2.2.2.2.2.1 < 6; omega) hF hU hp hq (Or.inr (by omega)) (by first | exact Or.inl ⟨c_122, rfl⟩ | exact Or.inr ⟨c_122, rfl⟩), hkd_up hkU (show 0 < 6 by decide)⟩) hP hD hS
                    · have c_111 : ¬ (q ≤ 0) := fun h => c_111 ((nI_leI (a := q) (b := 0) (by omega) (by omega)).mpr h)
                      refine lv_iinc (v := nI (q - 1)) (lv' := [(5, .int (nI (q - 1))), (0, .ref (t 0)), (1, .int a), (2, .int b), (3, .int (nI j)), (4, .int w)]) zx zb dX11_offer_114 hl (k := 5) rfl (dec1 (by omega)) (by decide) rfl (fun ls hl => ?_)
                      refine lv_goto (tgt := 97) zx zb dX11_offer_117 (by decide) ?_
                      exact ih97 (q - 1) (coSetTc F (coTc C + 1)) (offT U (coTc C) a b Y.1 (Y.1 + nI j) (nI q)) u_103.2.2 (by omega) (fun n => hF n) (off_hU hU) (hkd_up hkU (show 0 < 6 by decide)) (off_hp hp (ek ▸ c_106) c_111) (by omega) _ _ hP hD hS _ (lv_sub hl [1, 2, 3, 4, 5, 0] rfl)
              exact L97 _ 20 ((C, trCpy tr T (coTc C)).1) ((C, trCpy tr T (coTc C)).2) Z (by omega) (fun _ => rfl) (trCpy_lt) (trCpy_kd hkd hkT) (fun i h1 h2 => absurd h1 (by omega)) (Nat.lt_succ_self _) _ _ hP hD hS _ (lv_sub hl [1, 2, 3, 4, 5, 0] rfl)
            · have c_63 : ¬ (C.2.2.2.2.2.2.1 < 6) := fun h => c_63 ((nI_ltI (a := C.2.2.2.2.2.2.1) (b := 6) (by omega) (by omega)).mpr h)
              refine lv_aload_n zx zb dX11_offer_66 rfl (lv_at hl 0 rfl) ?_
              refine lv_bipush (v := (-3)) zx zb dX11_offer_67 (by decide) ?_
              refine lv_sipush (v := (-2000)) zx zb dX11_offer_69 (by decide) ?_
              refine call_Vi (As := [.int (-3), .int (-2000)]) (rest := []) XX cv_X11_79 (c_X11_refused Γ l t s x V (-3) (-2000) ) hP hD hS hA [0] (by decide) rfl (fun _ => rfl) 0 0 rfl rfl rfl rfl hl.1 rfl ⟨⟨by decide, by decide⟩, by decide, by decide⟩ (Nat.le_of_ble_eq_true rfl) dX11_offer_72 (fun r_72 u H locs hw hP hD hS => ?_)
              obtain ⟨hw1, hw2⟩ := hw
              have hw1 := hw1.symm
              have hw2 := hw2.symm
              subst hw1
              subst hw2
              have hP : bP Γ [bTT Γ t s x (ttRef V (-3)), bSt Γ s c y p pc, bCo Γ c k C, bTs Γ c k tr, bKd Γ k, bYr Γ y Y, bSt Γ x d z p2 pc2, bCo Γ d k E, bTs Γ d k T, bYr Γ z Z] H := hP
              have hD : bD AA [bTT Γ t s x (ttRef V (-3)), bSt Γ s c y p pc, bCo Γ c k C, bTs Γ c k tr, bKd Γ k, bYr Γ y Y, bSt Γ x d z p2 pc2, bCo Γ d k E, bTs Γ d k T, bYr Γ z Z] := hD
              exact fin _ _ (-2000) ((ttRef V (-3)), E, T, Z) 75 _ dX11_offer_75 (fun h => by cases h) (⟨off_bad2 (by unfold offOk; simp only [c_5, c_13, c_28, c_38, decide_eq_true (Int32.not_lt.mp c_18)]; rfl) (show ¬ coTc C < 6 by show ¬ C.2.2.2.2.2.2.1 < 6; omega), hkT⟩) hP hD hS
          · have c_38 : (wi w 0 1) = false := bI_0.mp c_38
            refine lv_aload_n zx zb dX11_offer_41 rfl (lv_at hl 0 rfl) ?_
            refine lv_bipush (v := (-2)) zx zb dX11_offer_42 (by decide) ?_
            refine lv_sipush (v := (-1000)) zx zb dX11_offer_44 (by decide) ?_
            refine call_Vi (As := [.int (-2), .int (-1000)]) (rest := []) XX cv_X11_79 (c_X11_refused Γ l t s x V (-2) (-1000) ) hP hD hS hA [0] (by decide) rfl (fun _ => rfl) 0 0 rfl rfl rfl rfl hl.1 rfl ⟨⟨by decide, by decide⟩, by decide, by decide⟩ (Nat.le_of_ble_eq_true rfl) dX11_offer_47 (fun r_47 u H locs hw hP hD hS => ?_)
            obtain ⟨hw1, hw2⟩ := hw
            have hw1 := hw1.symm
            have hw2 := hw2.symm
            subst hw1
            subst hw2
            have hP : bP Γ [bTT Γ t s x (ttRef V (-2)), bSt Γ s c y p pc, bCo Γ c k C, bTs Γ c k tr, bKd Γ k, bYr Γ y Y, bSt Γ x d z p2 pc2, bCo Γ d k E, bTs Γ d k T, bYr Γ z Z] H := hP
            have hD : bD AA [bTT Γ t s x (ttRef V (-2)), bSt Γ s c y p pc, bCo Γ c k C, bTs Γ c k tr, bKd Γ k, bYr Γ y Y, bSt Γ x d z p2 pc2, bCo Γ d k E, bTs Γ d k T, bYr Γ z Z] := hD
            exact fin _ _ (-1000) ((ttRef V (-2)), E, T, Z) 50 _ dX11_offer_50 (fun h => by cases h) (⟨off_bad1 (tr := tr) (T := tr) (by unfold offOk; first | (simp only [c_5, Bool.false_and]; done) | (simp only [c_13, Bool.and_false, Bool.false_and]; done) | (simp only [decide_eq_false (Int32.not_le.mpr c_18), Bool.and_false, Bool.false_and]; done) | (simp only [c_28, Bool.and_false, Bool.false_and]; done) | (simp only [c_38, Bool.and_false]; done)), hkT⟩) hP hD hS
