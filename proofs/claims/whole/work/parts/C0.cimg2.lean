theorem cv_X11_297 : CWV RX11 297 RX8 yX8_copyOf cX8_copyOf 3 none 1 := ⟨cd_X8_copyOf, im_X8_copyOf, se_X8_X8_copyOf_X8_copyOf, in_X8, ml_X11_297, by decide +kernel⟩
set_option maxHeartbeats 4000000 in
set_option maxRecDepth 100000 in
theorem c_X11_image_new_0 (Γ : GG) (l : Launch) (t : Nat → Nat) (s : Nat → Nat) (x : Nat → Nat) (V : V3) (c : Nat → Nat) (k : Nat → Nat) (y : Nat → Nat) (p : Nat → Nat → Nat) (pc : Nat) (C : CoV) (tr : Nat → TrV) (Y : YrV) (P : Nat → YrV) (f : Nat → Option Nat) (htc : C.2.2.2.2.2.2.1 ≤ 6) (hpc : pc ≤ 6) (hf : f 0 = none) : Ci Γ l yX11_image cX11_image 2 (some (.int)) 4 85 38 274 [.ref (t 0), .int (nI 0)] [bTT Γ t s x V, bSt Γ s c y p pc, bCo Γ c k C, bTs Γ c k tr, bKd Γ k, bYr Γ y Y, bYr Γ (p 0) (P 0), bYr Γ (p 1) (P 1), bYr Γ (p 2) (P 2), bYr Γ (p 3) (P 3), bYr Γ (p 4) (P 4), bYr Γ (p 5) (P 5), [(t 1, .inl (Γ.2 3, 2, .inr (.inr (.inr (.inr f)))))]] (fun (r : Int32) (u : (Nat → Nat) × (Nat → Nat) × (Nat → Nat) × (Nat → Nat → Nat)) => r = nI 1) (fun (u : (Nat → Nat) × (Nat → Nat) × (Nat → Nat) × (Nat → Nat → Nat)) => [bTT Γ t s x V, bSt Γ s c y p pc, bCo Γ c k C, bTs Γ c k tr, bKd Γ k, bYr Γ y Y, bYr Γ (p 0) (P 0), bYr Γ (p 1) (P 1), bYr Γ (p 2) (P 2), bYr Γ (p 3) (P 3), bYr Γ (p 4) (P 4), bYr Γ (p 5) (P 5), ([(t 1, .inl (Γ.2 3, 2, .inr (.inr (.inr (.inr (va_up f 0 (some (u.1 0))))))))] ++ bSt Γ u.1 u.2.1 u.2.2.1 u.2.2.2 pc ++ bCo Γ u.2.1 k C ++ bTs Γ u.2.1 k (trCpy tr trD (coTc C)) ++ bYr Γ u.2.2.1 Y ++ bYr Γ (u.2.2.2 0) (yCpy P (fun _ => yrD) pc 0) ++ bYr Γ (u.2.2.2 1) (yCpy P (fun _ => yrD) pc 1) ++ bYr Γ (u.2.2.2 2) (yCpy P (fun _ => yrD) pc 2) ++ bYr Γ (u.2.2.2 3) (yCpy P (fun _ => yrD) pc 3) ++ bYr Γ (u.2.2.2 4) (yCpy P (fun _ => yrD) pc 4) ++ bYr Γ (u.2.2.2 5) (yCpy P (fun _ => yrD) pc 5))]) := by
  refine Ci.of (Or.inl rfl) (by decide) (Nat.le_of_ble_eq_true rfl) ?_
  intro pp ee ss mm bb me cd AA QQ XX hnm hA hP hD fin ls hl
  obtain ⟨zx, zb, hml, hown, hts, hK⟩ := id XX
  have hS : va_S AA ss.heap ss.heap [] := va_S.rf
  have hl : lv_has ls 2 [(0, .ref (t 0)), (1, .int (nI 0))] := hl
  refine lv_iload_n zx zb dX11_image_0 rfl (lv_at hl 1 rfl) ?_
  refine lv_iconst (v := nI 0) zx zb dX11_image_1 (by decide) ?_
  refine lv_iconst (v := nI 1) zx zb dX11_image_2 (by decide) ?_
  refine callR_Si (As := [.int (nI 0), .int (nI 0), .int (nI 1)]) (rest := []) XX cs_X11_75 (c_X11_within Γ l 0 0 1 ) hP hD hS hA nil_mem nil_D rfl hl.1 rfl ⟨⟨by decide, by decide⟩, by decide, by decide⟩ (Nat.le_of_ble_eq_true rfl) dX11_image_3 (fun r_3 H locs hw hP hS => ?_)
  have hw := hw.symm
  subst hw
  refine lv_if_ne (tgt := 18) zx zb dX11_image_6 (by decide) (fun c_6 => ?_) (fun c_6 => ?_)
  · have c_6 : (wi 0 0 1) = true := bI_ne c_6
    refine lv_aload_n zx zb dX11_image_18 rfl (lv_at hl 0 rfl) ?_
    refine g_get (v := .ref (t 1)) XX hP 0 0 rfl rfl rfl iwX11 2 (by decide) fl_X11_39 rfl dX11_image_19 ?_
    refine lv_iload_n zx zb dX11_image_22 rfl (lv_at hl 1 rfl) ?_
    refine g_aaldO (i := 0) XX hP 12 0 3 rfl rfl rfl (by decide) (by decide) hf dX11_image_23 ?_
    refine lv_ifnonnullN zx zb dX11_image_24 ?_
    refine lv_aload_n zx zb dX11_image_27 rfl (lv_at hl 0 rfl) ?_
    refine g_get (v := .ref (t 1)) XX hP 0 0 rfl rfl rfl iwX11 2 (by decide) fl_X11_39 rfl dX11_image_28 ?_
    refine lv_iload_n zx zb dX11_image_31 rfl (lv_at hl 1 rfl) ?_
    refine g_new (fs := [.null, .null, .null, .int 0]) XX hP hD hS hA 8 rfl iwX8 tyX8_ok cl_X11_25 it_X8 in_X8 (by intro j hj; rcases (show j = 0 ∨ j = 1 ∨ j = 2 ∨ j = 3 by omega) with rfl | rfl | rfl | rfl <;> rfl) (by decide) (by decide) dX11_image_32 (fun q32_1 H hP hD hS => ?_)
    have hP : bP Γ [bTT Γ t s x V, bSt Γ s c y p pc, bCo Γ c k C, bTs Γ c k tr, bKd Γ k, bYr Γ y Y, bYr Γ (p 0) (P 0), bYr Γ (p 1) (P 1), bYr Γ (p 2) (P 2), bYr Γ (p 3) (P 3), bYr Γ (p 4) (P 4), bYr Γ (p 5) (P 5), [(t 1, .inl (Γ.2 3, 2, .inr (.inr (.inr (.inr f)))))], [(q32_1, .inr (8, [.null, .null, .null, .int 0]))]] H := hP
    have hD : bD AA [bTT Γ t s x V, bSt Γ s c y p pc, bCo Γ c k C, bTs Γ c k tr, bKd Γ k, bYr Γ y Y, bYr Γ (p 0) (P 0), bYr Γ (p 1) (P 1), bYr Γ (p 2) (P 2), bYr Γ (p 3) (P 3), bYr Γ (p 4) (P 4), bYr Γ (p 5) (P 5), [(t 1, .inl (Γ.2 3, 2, .inr (.inr (.inr (.inr f)))))], [(q32_1, .inr (8, [.null, .null, .null, .int 0]))]] := hD
    refine lv_dup zx zb dX11_image_35 rfl ?_
    refine lv_aload_n zx zb dX11_image_36 rfl (lv_at hl 0 rfl) ?_
    refine g_get (v := .ref (s 0)) XX hP 0 0 rfl rfl rfl iwX11 0 (by decide) fl_X11_30 rfl dX11_image_37 ?_
    refine g_get (v := .ref (c 0)) XX hP 1 0 rfl rfl rfl iwX8 0 (by decide) fl_X11_100 rfl dX11_image_40 ?_
    refine g_get (v := .ref (k 6)) XX hP 2 0 rfl rfl rfl iwX2 0 (by decide) fl_X11_293 rfl dX11_image_43 ?_
    refine call_Iv (As := [.ref (k 6)]) (rest := [.ref q32_1, .int (nI 0), .ref (t 1)]) XX ci_X11_27 (c_X8_init Γ l q32_1 k ) hP hD hS hA [13, 4] (by decide) rfl (fun _ => rfl) rfl hl.1 rfl ⟨⟨by decide, by decide⟩, by first | decide | omega, by first | decide | omega⟩ (Nat.le_of_ble_eq_true rfl) dX11_image_46 (fun u H locs hw hP hD hS => ?_)
    obtain ⟨u_46_2, rfl⟩ : ∃ z, z = u := ⟨_, rfl⟩
    have w_46_2 := hw
    subst w_46_2
    have hP : bP Γ [bTT Γ t s x V, bSt Γ s c y p pc, bCo Γ c k C, bTs Γ c k tr, bKd Γ k, bYr Γ y Y, bYr Γ (p 0) (P 0), bYr Γ (p 1) (P 1), bYr Γ (p 2) (P 2), bYr Γ (p 3) (P 3), bYr Γ (p 4) (P 4), bYr Γ (p 5) (P 5), [(t 1, .inl (Γ.2 3, 2, .inr (.inr (.inr (.inr f)))))], bSt Γ u_46_2.1 u_46_2.2.1 u_46_2.2.2.1 u_46_2.2.2.2 0, bCo Γ u_46_2.2.1 k (co0 6 coD), bTs Γ u_46_2.2.1 k trD, bYr Γ u_46_2.2.2.1 yr0, bYr Γ (u_46_2.2.2.2 0) yrD, bYr Γ (u_46_2.2.2.2 1) yrD, bYr Γ (u_46_2.2.2.2 2) yrD, bYr Γ (u_46_2.2.2.2 3) yrD, bYr Γ (u_46_2.2.2.2 4) yrD, bYr Γ (u_46_2.2.2.2 5) yrD] H := hP
    have hD : bD AA [bTT Γ t s x V, bSt Γ s c y p pc, bCo Γ c k C, bTs Γ c k tr, bKd Γ k, bYr Γ y Y, bYr Γ (p 0) (P 0), bYr Γ (p 1) (P 1), bYr Γ (p 2) (P 2), bYr Γ (p 3) (P 3), bYr Γ (p 4) (P 4), bYr Γ (p 5) (P 5), [(t 1, .inl (Γ.2 3, 2, .inr (.inr (.inr (.inr f)))))], bSt Γ u_46_2.1 u_46_2.2.1 u_46_2.2.2.1 u_46_2.2.2.2 0, bCo Γ u_46_2.2.1 k (co0 6 coD), bTs Γ u_46_2.2.1 k trD, bYr Γ u_46_2.2.2.1 yr0, bYr Γ (u_46_2.2.2.2 0) yrD, bYr Γ (u_46_2.2.2.2 1) yrD, bYr Γ (u_46_2.2.2.2 2) yrD, bYr Γ (u_46_2.2.2.2 3) yrD, bYr Γ (u_46_2.2.2.2 4) yrD, bYr Γ (u_46_2.2.2.2 5) yrD] := hD
    refine g_aastN (i := 0) (blk' := [(t 1, .inl (Γ.2 3, 2, .inr (.inr (.inr (.inr (va_up f 0 (some (u_46_2.1 0))))))))]) (bs' := [bTT Γ t s x V, bSt Γ s c y p pc, bCo Γ c k C, bTs Γ c k tr, bKd Γ k, bYr Γ y Y, bYr Γ (p 0) (P 0), bYr Γ (p 1) (P 1), bYr Γ (p 2) (P 2), bYr Γ (p 3) (P 3), bYr Γ (p 4) (P 4), bYr Γ (p 5) (P 5), [(t 1, .inl (Γ.2 3, 2, .inr (.inr (.inr (.inr (va_up f 0 (some (u_46_2.1 0))))))))], bSt Γ u_46_2.1 u_46_2.2.1 u_46_2.2.2.1 u_46_2.2.2.2 0, bCo Γ u_46_2.2.1 k (co0 6 coD), bTs Γ u_46_2.2.1 k trD, bYr Γ u_46_2.2.2.1 yr0, bYr Γ (u_46_2.2.2.2 0) yrD, bYr Γ (u_46_2.2.2.2 1) yrD, bYr Γ (u_46_2.2.2.2 2) yrD, bYr Γ (u_46_2.2.2.2 3) yrD, bYr Γ (u_46_2.2.2.2 4) yrD, bYr Γ (u_46_2.2.2.2 5) yrD]) XX hP hD hS 12 0 3 13 0 rfl rfl rfl rfl rfl rfl (by decide) (by decide) rfl rfl dX11_image_49 (fun H locs hP hD hS => ?_)
    refine lv_aload_n zx zb dX11_image_50 rfl (lv_at hl 0 rfl) ?_
    refine g_get (v := .ref (t 1)) XX hP 0 0 rfl rfl rfl iwX11 2 (by decide) fl_X11_39 rfl dX11_image_51 ?_
    refine lv_iload_n zx zb dX11_image_54 rfl (lv_at hl 1 rfl) ?_
    refine g_aald (i := 0) (v := u_46_2.1 0) XX hP 12 0 3 rfl rfl rfl (by decide) (by decide) rfl dX11_image_55 ?_
    refine lv_aload_n zx zb dX11_image_56 rfl (lv_at hl 0 rfl) ?_
    refine g_get (v := .ref (s 0)) XX hP 0 0 rfl rfl rfl iwX11 0 (by decide) fl_X11_30 rfl dX11_image_57 ?_
    refine call_Vv (As := [.ref (s 0)]) (rest := []) XX cv_X11_297 (c_X8_copyOf Γ l u_46_2.1 u_46_2.2.1 u_46_2.2.2.1 u_46_2.2.2.2 k 0 (co0 6 coD) trD yr0 (fun _ => yrD) s c y p pc C tr Y P (htc) (hpc)) hP hD hS hA [13, 14, 15, 16, 17, 18, 19, 20, 21, 22, 1, 2, 3, 5, 6, 7, 8, 9, 10, 11] (by decide) rfl (fun _ => rfl) 13 0 rfl rfl rfl rfl hl.1 rfl ⟨⟨by decide, by decide⟩, by decide, by decide⟩ (Nat.le_of_ble_eq_true rfl) dX11_image_60 (fun u H locs hw hP hD hS => ?_)
    have sa_60 : ∀ a0 a1 a2 a3 a4 a5 a6 a7 a8 a9 a10 a11 a12 a13 a14 a15 a16 a17 a18 a19 a20 a21 a22 n0 n1 n2 n3 n4 n5 n6 n7 n8 n9 n10 n11 n12 n13 n14 n15 n16 n17 n18 n19, setAll [a0, a1, a2, a3, a4, a5, a6, a7, a8, a9, a10, a11, a12, a13, a14, a15, a16, a17, a18, a19, a20, a21, a22] [13, 14, 15, 16, 17, 18, 19, 20, 21, 22, 1, 2, 3, 5, 6, 7, 8, 9, 10, 11] [n0, n1, n2, n3, n4, n5, n6, n7, n8, n9, n10, n11, n12, n13, n14, n15, n16, n17, n18, n19] = [a0, n10, n11, n12, a4, n13, n14, n15, n16, n17, n18, n19, a12, n0, n1, n2, n3, n4, n5, n6, n7, n8, n9] := by intros; simp only [setAll, List.set_cons_zero, List.set_cons_succ]
    rw [sa_60] at hP hD
    obtain ⟨u_60, rfl⟩ : ∃ z, z = u := ⟨_, rfl⟩
    have w_60 := hw
    have hP : bP Γ [bTT Γ t s x V, bSt Γ s c y p pc, bCo Γ c k C, bTs Γ c k tr, bKd Γ k, bYr Γ y Y, bYr Γ (p 0) (P 0), bYr Γ (p 1) (P 1), bYr Γ (p 2) (P 2), bYr Γ (p 3) (P 3), bYr Γ (p 4) (P 4), bYr Γ (p 5) (P 5), [(t 1, .inl (Γ.2 3, 2, .inr (.inr (.inr (.inr (va_up f 0 (some (u_46_2.1 0))))))))], bSt Γ u_46_2.1 u_46_2.2.1 u_46_2.2.2.1 u_46_2.2.2.2 pc, bCo Γ u_46_2.2.1 k C, bTs Γ u_46_2.2.1 k (trCpy tr trD (coTc C)), bYr Γ u_46_2.2.2.1 Y, bYr Γ (u_46_2.2.2.2 0) (yCpy P (fun _ => yrD) pc 0), bYr Γ (u_46_2.2.2.2 1) (yCpy P (fun _ => yrD) pc 1), bYr Γ (u_46_2.2.2.2 2) (yCpy P (fun _ => yrD) pc 2), bYr Γ (u_46_2.2.2.2 3) (yCpy P (fun _ => yrD) pc 3), bYr Γ (u_46_2.2.2.2 4) (yCpy P (fun _ => yrD) pc 4), bYr Γ (u_46_2.2.2.2 5) (yCpy P (fun _ => yrD) pc 5)] H := hP
    have hD : bD AA [bTT Γ t s x V, bSt Γ s c y p pc, bCo Γ c k C, bTs Γ c k tr, bKd Γ k, bYr Γ y Y, bYr Γ (p 0) (P 0), bYr Γ (p 1) (P 1), bYr Γ (p 2) (P 2), bYr Γ (p 3) (P 3), bYr Γ (p 4) (P 4), bYr Γ (p 5) (P 5), [(t 1, .inl (Γ.2 3, 2, .inr (.inr (.inr (.inr (va_up f 0 (some (u_46_2.1 0))))))))], bSt Γ u_46_2.1 u_46_2.2.1 u_46_2.2.2.1 u_46_2.2.2.2 pc, bCo Γ u_46_2.2.1 k C, bTs Γ u_46_2.2.1 k (trCpy tr trD (coTc C)), bYr Γ u_46_2.2.2.1 Y, bYr Γ (u_46_2.2.2.2 0) (yCpy P (fun _ => yrD) pc 0), bYr Γ (u_46_2.2.2.2 1) (yCpy P (fun _ => yrD) pc 1), bYr Γ (u_46_2.2.2.2 2) (yCpy P (fun _ => yrD) pc 2), bYr Γ (u_46_2.2.2.2 3) (yCpy P (fun _ => yrD) pc 3), bYr Γ (u_46_2.2.2.2 4) (yCpy P (fun _ => yrD) pc 4), bYr Γ (u_46_2.2.2.2 5) (yCpy P (fun _ => yrD) pc 5)] := hD
    refine lv_iconst (v := nI 1) zx zb dX11_image_63 (by decide) ?_
    exact fin _ _ (nI 1) (u_46_2.1, u_46_2.2.1, u_46_2.2.2.1, u_46_2.2.2.2) 64 _ dX11_image_64 (fun h => by cases h) rfl hP hD hS
  · have c_6 : (wi 0 0 1) = false := bI_0.mp c_6
    exact absurd c_6 (by decide)

set_option maxHeartbeats 4000000 in
set_option maxRecDepth 100000 in
theorem c_X11_image_old_0 (Γ : GG) (l : Launch) (t : Nat → Nat) (s : Nat → Nat) (x : Nat → Nat) (V : V3) (c : Nat → Nat) (k : Nat → Nat) (y : Nat → Nat) (p : Nat → Nat → Nat) (pc : Nat) (C : CoV) (tr : Nat → TrV) (Y : YrV) (P : Nat → YrV) (s2 : Nat → Nat) (d : Nat → Nat) (z : Nat → Nat) (p2 : Nat → Nat → Nat) (pc2 : Nat) (E : CoV) (tr2 : Nat → TrV) (Z : YrV) (P2 : Nat → YrV) (f : Nat → Option Nat) (htc : C.2.2.2.2.2.2.1 ≤ 6) (hpc : pc ≤ 6) (hf : f 0 = some (s2 0)) : Ci Γ l yX11_image cX11_image 2 (some (.int)) 3 70 0 0 [.ref (t 0), .int (nI 0)] [bTT Γ t s x V, bSt Γ s c y p pc, bCo Γ c k C, bTs Γ c k tr, bYr Γ y Y, bYr Γ (p 0) (P 0), bYr Γ (p 1) (P 1), bYr Γ (p 2) (P 2), bYr Γ (p 3) (P 3), bYr Γ (p 4) (P 4), bYr Γ (p 5) (P 5), bKd Γ k, [(t 1, .inl (Γ.2 3, 2, .inr (.inr (.inr (.inr f)))))], bSt Γ s2 d z p2 pc2, bCo Γ d k E, bTs Γ d k tr2, bYr Γ z Z, bYr Γ (p2 0) (P2 0), bYr Γ (p2 1) (P2 1), bYr Γ (p2 2) (P2 2), bYr Γ (p2 3) (P2 3), bYr Γ (p2 4) (P2 4), bYr Γ (p2 5) (P2 5)] (fun (r : Int32) (u : Unit) => r = nI 1) (fun (u : Unit) => [bTT Γ t s x V, bSt Γ s c y p pc, bCo Γ c k C, bTs Γ c k tr, bYr Γ y Y, bYr Γ (p 0) (P 0), bYr Γ (p 1) (P 1), bYr Γ (p 2) (P 2), bYr Γ (p 3) (P 3), bYr Γ (p 4) (P 4), bYr Γ (p 5) (P 5), bKd Γ k, [(t 1, .inl (Γ.2 3, 2, .inr (.inr (.inr (.inr f)))))], bSt Γ s2 d z p2 pc, bCo Γ d k C, bTs Γ d k (trCpy tr tr2 (coTc C)), bYr Γ z Y, bYr Γ (p2 0) (yCpy P P2 pc 0), bYr Γ (p2 1) (yCpy P P2 pc 1), bYr Γ (p2 2) (yCpy P P2 pc 2), bYr Γ (p2 3) (yCpy P P2 pc 3), bYr Γ (p2 4) (yCpy P P2 pc 4), bYr Γ (p2 5) (yCpy P P2 pc 5)]) := by
  refine Ci.of (Or.inl rfl) (by decide) (Nat.le_of_ble_eq_true rfl) ?_
  intro pp ee ss mm bb me cd AA QQ XX hnm hA hP hD fin ls hl
  obtain ⟨zx, zb, hml, hown, hts, hK⟩ := id XX
  have hS : va_S AA ss.heap ss.heap [] := va_S.rf
  have hl : lv_has ls 2 [(0, .ref (t 0)), (1, .int (nI 0))] := hl
  refine lv_iload_n zx zb dX11_image_0 rfl (lv_at hl 1 rfl) ?_
  refine lv_iconst (v := nI 0) zx zb dX11_image_1 (by decide) ?_
  refine lv_iconst (v := nI 1) zx zb dX11_image_2 (by decide) ?_
  refine callR_Si (As := [.int (nI 0), .int (nI 0), .int (nI 1)]) (rest := []) XX cs_X11_75 (c_X11_within Γ l 0 0 1 ) hP hD hS hA nil_mem nil_D rfl hl.1 rfl ⟨⟨by decide, by decide⟩, by decide, by decide⟩ (Nat.le_of_ble_eq_true rfl) dX11_image_3 (fun r_3 H locs hw hP hS => ?_)
  have hw := hw.symm
  subst hw
  refine lv_if_ne (tgt := 18) zx zb dX11_image_6 (by decide) (fun c_6 => ?_) (fun c_6 => ?_)
  · have c_6 : (wi 0 0 1) = true := bI_ne c_6
    refine lv_aload_n zx zb dX11_image_18 rfl (lv_at hl 0 rfl) ?_
    refine g_get (v := .ref (t 1)) XX hP 0 0 rfl rfl rfl iwX11 2 (by decide) fl_X11_39 rfl dX11_image_19 ?_
    refine lv_iload_n zx zb dX11_image_22 rfl (lv_at hl 1 rfl) ?_
    refine g_aald (i := 0) (v := s2 0) XX hP 12 0 3 rfl rfl rfl (by decide) (by decide) hf dX11_image_23 ?_
    refine lv_ifnonnull (tgt := 50) zx zb dX11_image_24 (by decide) ?_
    refine lv_aload_n zx zb dX11_image_50 rfl (lv_at hl 0 rfl) ?_
    refine g_get (v := .ref (t 1)) XX hP 0 0 rfl rfl rfl iwX11 2 (by decide) fl_X11_39 rfl dX11_image_51 ?_
    refine lv_iload_n zx zb dX11_image_54 rfl (lv_at hl 1 rfl) ?_
    refine g_aald (i := 0) (v := s2 0) XX hP 12 0 3 rfl rfl rfl (by decide) (by decide) hf dX11_image_55 ?_
    refine lv_aload_n zx zb dX11_image_56 rfl (lv_at hl 0 rfl) ?_
    refine g_get (v := .ref (s 0)) XX hP 0 0 rfl rfl rfl iwX11 0 (by decide) fl_X11_30 rfl dX11_image_57 ?_
    refine call_Vv (As := [.ref (s 0)]) (rest := []) XX cv_X11_297 (c_X8_copyOf Γ l s2 d z p2 k pc2 E tr2 Z P2 s c y p pc C tr Y P (htc) (hpc)) hP hD hS hA [13, 14, 15, 16, 17, 18, 19, 20, 21, 22, 1, 2, 3, 4, 5, 6, 7, 8, 9, 10] (by decide) rfl (fun _ => rfl) 13 0 rfl rfl rfl rfl hl.1 rfl ⟨⟨by decide, by decide⟩, by decide, by decide⟩ (Nat.le_of_ble_eq_true rfl) dX11_image_60 (fun u H locs hw hP hD hS => ?_)
    have sa_60 : ∀ a0 a1 a2 a3 a4 a5 a6 a7 a8 a9 a10 a11 a12 a13 a14 a15 a16 a17 a18 a19 a20 a21 a22 n0 n1 n2 n3 n4 n5 n6 n7 n8 n9 n10 n11 n12 n13 n14 n15 n16 n17 n18 n19, setAll [a0, a1, a2, a3, a4, a5, a6, a7, a8, a9, a10, a11, a12, a13, a14, a15, a16, a17, a18, a19, a20, a21, a22] [13, 14, 15, 16, 17, 18, 19, 20, 21, 22, 1, 2, 3, 4, 5, 6, 7, 8, 9, 10] [n0, n1, n2, n3, n4, n5, n6, n7, n8, n9, n10, n11, n12, n13, n14, n15, n16, n17, n18, n19] = [a0, n10, n11, n12, n13, n14, n15, n16, n17, n18, n19, a11, a12, n0, n1, n2, n3, n4, n5, n6, n7, n8, n9] := by intros; simp only [setAll, List.set_cons_zero, List.set_cons_succ]
    rw [sa_60] at hP hD
    obtain ⟨u_60, rfl⟩ : ∃ z, z = u := ⟨_, rfl⟩
    have w_60 := hw
    have hP : bP Γ [bTT Γ t s x V, bSt Γ s c y p pc, bCo Γ c k C, bTs Γ c k tr, bYr Γ y Y, bYr Γ (p 0) (P 0), bYr Γ (p 1) (P 1), bYr Γ (p 2) (P 2), bYr Γ (p 3) (P 3), bYr Γ (p 4) (P 4), bYr Γ (p 5) (P 5), bKd Γ k, [(t 1, .inl (Γ.2 3, 2, .inr (.inr (.inr (.inr f)))))], bSt Γ s2 d z p2 pc, bCo Γ d k C, bTs Γ d k (trCpy tr tr2 (coTc C)), bYr Γ z Y, bYr Γ (p2 0) (yCpy P P2 pc 0), bYr Γ (p2 1) (yCpy P P2 pc 1), bYr Γ (p2 2) (yCpy P P2 pc 2), bYr Γ (p2 3) (yCpy P P2 pc 3), bYr Γ (p2 4) (yCpy P P2 pc 4), bYr Γ (p2 5) (yCpy P P2 pc 5)] H := hP
    have hD : bD AA [bTT Γ t s x V, bSt Γ s c y p pc, bCo Γ c k C, bTs Γ c k tr, bYr Γ y Y, bYr Γ (p 0) (P 0), bYr Γ (p 1) (P 1), bYr Γ (p 2) (P 2), bYr Γ (p 3) (P 3), bYr Γ (p 4) (P 4), bYr Γ (p 5) (P 5), bKd Γ k, [(t 1, .inl (Γ.2 3, 2, .inr (.inr (.inr (.inr f)))))], bSt Γ s2 d z p2 pc, bCo Γ d k C, bTs Γ d k (trCpy tr tr2 (coTc C)), bYr Γ z Y, bYr Γ (p2 0) (yCpy P P2 pc 0), bYr Γ (p2 1) (yCpy P P2 pc 1), bYr Γ (p2 2) (yCpy P P2 pc 2), bYr Γ (p2 3) (yCpy P P2 pc 3), bYr Γ (p2 4) (yCpy P P2 pc 4), bYr Γ (p2 5) (yCpy P P2 pc 5)] := hD
    refine lv_iconst (v := nI 1) zx zb dX11_image_63 (by decide) ?_
    exact fin _ _ (nI 1) () 64 _ dX11_image_64 (fun h => by cases h) rfl hP hD hS
  · have c_6 : (wi 0 0 1) = false := bI_0.mp c_6
    exact absurd c_6 (by decide)

set_option maxHeartbeats 4000000 in
set_option maxRecDepth 100000 in
theorem c_X11_from_old_0 (Γ : GG) (l : Launch) (t : Nat → Nat) (s : Nat → Nat) (x : Nat → Nat) (V : V3) (c : Nat → Nat) (k : Nat → Nat) (y : Nat → Nat) (p : Nat → Nat → Nat) (pc : Nat) (C : CoV) (tr : Nat → TrV) (Y : YrV) (P : Nat → YrV) (s2 : Nat → Nat) (d : Nat → Nat) (z : Nat → Nat) (p2 : Nat → Nat → Nat) (pc2 : Nat) (E : CoV) (tr2 : Nat → TrV) (Z : YrV) (P2 : Nat → YrV) (f : Nat → Option Nat) (htc : E.2.2.2.2.2.2.1 ≤ 6) (hpc : pc2 ≤ 6) (hf : f 0 = some (s2 0)) : Ci Γ l yX11_from cX11_from 2 (some (.int)) 3 70 0 0 [.ref (t 0), .int (nI 0)] [bTT Γ t s x V, bSt Γ s c y p pc, bCo Γ c k C, bTs Γ c k tr, bYr Γ y Y, bYr Γ (p 0) (P 0), bYr Γ (p 1) (P 1), bYr Γ (p 2) (P 2), bYr Γ (p 3) (P 3), bYr Γ (p 4) (P 4), bYr Γ (p 5) (P 5), bKd Γ k, [(t 1, .inl (Γ.2 3, 2, .inr (.inr (.inr (.inr f)))))], bSt Γ s2 d z p2 pc2, bCo Γ d k E, bTs Γ d k tr2, bYr Γ z Z, bYr Γ (p2 0) (P2 0), bYr Γ (p2 1) (P2 1), bYr Γ (p2 2) (P2 2), bYr Γ (p2 3) (P2 3), bYr Γ (p2 4) (P2 4), bYr Γ (p2 5) (P2 5)] (fun (r : Int32) (u : Unit) => r = nI 1) (fun (u : Unit) => [bTT Γ t s x V, bSt Γ s c y p pc2, bCo Γ c k E, bTs Γ c k (trCpy tr2 tr (coTc E)), bYr Γ y Z, bYr Γ (p 0) (yCpy P2 P pc2 0), bYr Γ (p 1) (yCpy P2 P pc2 1), bYr Γ (p 2) (yCpy P2 P pc2 2), bYr Γ (p 3) (yCpy P2 P pc2 3), bYr Γ (p 4) (yCpy P2 P pc2 4), bYr Γ (p 5) (yCpy P2 P pc2 5), bKd Γ k, [(t 1, .inl (Γ.2 3, 2, .inr (.inr (.inr (.inr f)))))], bSt Γ s2 d z p2 pc2, bCo Γ d k E, bTs Γ d k tr2, bYr Γ z Z, bYr Γ (p2 0) (P2 0), bYr Γ (p2 1) (P2 1), bYr Γ (p2 2) (P2 2), bYr Γ (p2 3) (P2 3), bYr Γ (p2 4) (P2 4), bYr Γ (p2 5) (P2 5)]) := by
  refine Ci.of (Or.inl rfl) (by decide) (Nat.le_of_ble_eq_true rfl) ?_
  intro pp ee ss mm bb me cd AA QQ XX hnm hA hP hD fin ls hl
  obtain ⟨zx, zb, hml, hown, hts, hK⟩ := id XX
  have hS : va_S AA ss.heap ss.heap [] := va_S.rf
  have hl : lv_has ls 2 [(0, .ref (t 0)), (1, .int (nI 0))] := hl
  refine lv_iload_n zx zb dX11_from_0 rfl (lv_at hl 1 rfl) ?_
  refine lv_iconst (v := nI 0) zx zb dX11_from_1 (by decide) ?_
  refine lv_iconst (v := nI 1) zx zb dX11_from_2 (by decide) ?_
  refine callR_Si (As := [.int (nI 0), .int (nI 0), .int (nI 1)]) (rest := []) XX cs_X11_75 (c_X11_within Γ l 0 0 1 ) hP hD hS hA nil_mem nil_D rfl hl.1 rfl ⟨⟨by decide, by decide⟩, by decide, by decide⟩ (Nat.le_of_ble_eq_true rfl) dX11_from_3 (fun r_3 H locs hw hP hS => ?_)
  have hw := hw.symm
  subst hw
  refine lv_if_ne (tgt := 18) zx zb dX11_from_6 (by decide) (fun c_6 => ?_) (fun c_6 => ?_)
  · have c_6 : (wi 0 0 1) = true := bI_ne c_6
    refine lv_aload_n zx zb dX11_from_18 rfl (lv_at hl 0 rfl) ?_
    refine g_get (v := .ref (t 1)) XX hP 0 0 rfl rfl rfl iwX11 2 (by decide) fl_X11_39 rfl dX11_from_19 ?_
    refine lv_iload_n zx zb dX11_from_22 rfl (lv_at hl 1 rfl) ?_
    refine g_aald (i := 0) (v := s2 0) XX hP 12 0 3 rfl rfl rfl (by decide) (by decide) hf dX11_from_23 ?_
    refine lv_ifnonnull (tgt := 36) zx zb dX11_from_24 (by decide) ?_
    refine lv_aload_n zx zb dX11_from_36 rfl (lv_at hl 0 rfl) ?_
    refine g_get (v := .ref (s 0)) XX hP 0 0 rfl rfl rfl iwX11 0 (by decide) fl_X11_30 rfl dX11_from_37 ?_
    refine lv_aload_n zx zb dX11_from_40 rfl (lv_at hl 0 rfl) ?_
    refine g_get (v := .ref (t 1)) XX hP 0 0 rfl rfl rfl iwX11 2 (by decide) fl_X11_39 rfl dX11_from_41 ?_
    refine lv_iload_n zx zb dX11_from_44 rfl (lv_at hl 1 rfl) ?_
    refine g_aald (i := 0) (v := s2 0) XX hP 12 0 3 rfl rfl rfl (by decide) (by decide) hf dX11_from_45 ?_
    refine call_Vv (As := [.ref (s2 0)]) (rest := []) XX cv_X11_297 (c_X8_copyOf Γ l s c y p k pc C tr Y P s2 d z p2 pc2 E tr2 Z P2 (htc) (hpc)) hP hD hS hA [1, 2, 3, 4, 5, 6, 7, 8, 9, 10, 13, 14, 15, 16, 17, 18, 19, 20, 21, 22] (by decide) rfl (fun _ => rfl) 1 0 rfl rfl rfl rfl hl.1 rfl ⟨⟨by decide, by decide⟩, by decide, by decide⟩ (Nat.le_of_ble_eq_true rfl) dX11_from_46 (fun u H locs hw hP hD hS => ?_)
    have sa_46 : ∀ a0 a1 a2 a3 a4 a5 a6 a7 a8 a9 a10 a11 a12 a13 a14 a15 a16 a17 a18 a19 a20 a21 a22 n0 n1 n2 n3 n4 n5 n6 n7 n8 n9 n10 n11 n12 n13 n14 n15 n16 n17 n18 n19, setAll [a0, a1, a2, a3, a4, a5, a6, a7, a8, a9, a10, a11, a12, a13, a14, a15, a16, a17, a18, a19, a20, a21, a22] [1, 2, 3, 4, 5, 6, 7, 8, 9, 10, 13, 14, 15, 16, 17, 18, 19, 20, 21, 22] [n0, n1, n2, n3, n4, n5, n6, n7, n8, n9, n10, n11, n12, n13, n14, n15, n16, n17, n18, n19] = [a0, n0, n1, n2, n3, n4, n5, n6, n7, n8, n9, a11, a12, n10, n11, n12, n13, n14, n15, n16, n17, n18, n19] := by intros; simp only [setAll, List.set_cons_zero, List.set_cons_succ]
    rw [sa_46] at hP hD
    obtain ⟨u_46, rfl⟩ : ∃ z, z = u := ⟨_, rfl⟩
    have w_46 := hw
    have hP : bP Γ [bTT Γ t s x V, bSt Γ s c y p pc2, bCo Γ c k E, bTs Γ c k (trCpy tr2 tr (coTc E)), bYr Γ y Z, bYr Γ (p 0) (yCpy P2 P pc2 0), bYr Γ (p 1) (yCpy P2 P pc2 1), bYr Γ (p 2) (yCpy P2 P pc2 2), bYr Γ (p 3) (yCpy P2 P pc2 3), bYr Γ (p 4) (yCpy P2 P pc2 4), bYr Γ (p 5) (yCpy P2 P pc2 5), bKd Γ k, [(t 1, .inl (Γ.2 3, 2, .inr (.inr (.inr (.inr f)))))], bSt Γ s2 d z p2 pc2, bCo Γ d k E, bTs Γ d k tr2, bYr Γ z Z, bYr Γ (p2 0) (P2 0), bYr Γ (p2 1) (P2 1), bYr Γ (p2 2) (P2 2), bYr Γ (p2 3) (P2 3), bYr Γ (p2 4) (P2 4), bYr Γ (p2 5) (P2 5)] H := hP
    have hD : bD AA [bTT Γ t s x V, bSt Γ s c y p pc2, bCo Γ c k E, bTs Γ c k (trCpy tr2 tr (coTc E)), bYr Γ y Z, bYr Γ (p 0) (yCpy P2 P pc2 0), bYr Γ (p 1) (yCpy P2 P pc2 1), bYr Γ (p 2) (yCpy P2 P pc2 2), bYr Γ (p 3) (yCpy P2 P pc2 3), bYr Γ (p 4) (yCpy P2 P pc2 4), bYr Γ (p 5) (yCpy P2 P pc2 5), bKd Γ k, [(t 1, .inl (Γ.2 3, 2, .inr (.inr (.inr (.inr f)))))], bSt Γ s2 d z p2 pc2, bCo Γ d k E, bTs Γ d k tr2, bYr Γ z Z, bYr Γ (p2 0) (P2 0), bYr Γ (p2 1) (P2 1), bYr Γ (p2 2) (P2 2), bYr Γ (p2 3) (P2 3), bYr Γ (p2 4) (P2 4), bYr Γ (p2 5) (P2 5)] := hD
    refine lv_iconst (v := nI 1) zx zb dX11_from_49 (by decide) ?_
    exact fin _ _ (nI 1) () 50 _ dX11_from_50 (fun h => by cases h) rfl hP hD hS
  · have c_6 : (wi 0 0 1) = false := bI_0.mp c_6
    exact absurd c_6 (by decide)

set_option maxHeartbeats 4000000 in
set_option maxRecDepth 100000 in
theorem c_X11_image_new_1 (Γ : GG) (l : Launch) (t : Nat → Nat) (s : Nat → Nat) (x : Nat → Nat) (V : V3) (c : Nat → Nat) (k : Nat → Nat) (y : Nat → Nat) (p : Nat → Nat → Nat) (pc : Nat) (C : CoV) (tr : Nat → TrV) (Y : YrV) (P : Nat → YrV) (f : Nat → Option Nat) (htc : C.2.2.2.2.2.2.1 ≤ 6) (hpc : pc ≤ 6) (hf : f 1 = none) : Ci Γ l yX11_image cX11_image 2 (some (.int)) 4 85 38 274 [.ref (t 0), .int (nI 1)] [bTT Γ t s x V, bSt Γ s c y p pc, bCo Γ c k C, bTs Γ c k tr, bKd Γ k, bYr Γ y Y, bYr Γ (p 0) (P 0), bYr Γ (p 1) (P 1), bYr Γ (p 2) (P 2), bYr Γ (p 3) (P 3), bYr Γ (p 4) (P 4), bYr Γ (p 5) (P 5), [(t 1, .inl (Γ.2 3, 2, .inr (.inr (.inr (.inr f)))))]] (fun (r : Int32) (u : (Nat → Nat) × (Nat → Nat) × (Nat → Nat) × (Nat → Nat → Nat)) => r = nI 1) (fun (u : (Nat → Nat) × (Nat → Nat) × (Nat → Nat) × (Nat → Nat → Nat)) => [bTT Γ t s x V, bSt Γ s c y p pc, bCo Γ c k C, bTs Γ c k tr, bKd Γ k, bYr Γ y Y, bYr Γ (p 0) (P 0), bYr Γ (p 1) (P 1), bYr Γ (p 2) (P 2), bYr Γ (p 3) (P 3), bYr Γ (p 4) (P 4), bYr Γ (p 5) (P 5), ([(t 1, .inl (Γ.2 3, 2, .inr (.inr (.inr (.inr (va_up f 1 (some (u.1 0))))))))] ++ bSt Γ u.1 u.2.1 u.2.2.1 u.2.2.2 pc ++ bCo Γ u.2.1 k C ++ bTs Γ u.2.1 k (trCpy tr trD (coTc C)) ++ bYr Γ u.2.2.1 Y ++ bYr Γ (u.2.2.2 0) (yCpy P (fun _ => yrD) pc 0) ++ bYr Γ (u.2.2.2 1) (yCpy P (fun _ => yrD) pc 1) ++ bYr Γ (u.2.2.2 2) (yCpy P (fun _ => yrD) pc 2) ++ bYr Γ (u.2.2.2 3) (yCpy P (fun _ => yrD) pc 3) ++ bYr Γ (u.2.2.2 4) (yCpy P (fun _ => yrD) pc 4) ++ bYr Γ (u.2.2.2 5) (yCpy P (fun _ => yrD) pc 5))]) := by
  refine Ci.of (Or.inl rfl) (by decide) (Nat.le_of_ble_eq_true rfl) ?_
  intro pp ee ss mm bb me cd AA QQ XX hnm hA hP hD fin ls hl
  obtain ⟨zx, zb, hml, hown, hts, hK⟩ := id XX
  have hS : va_S AA ss.heap ss.heap [] := va_S.rf
  have hl : lv_has ls 2 [(0, .ref (t 0)), (1, .int (nI 1))] := hl
  refine lv_iload_n zx zb dX11_image_0 rfl (lv_at hl 1 rfl) ?_
  refine lv_iconst (v := nI 0) zx zb dX11_image_1 (by decide) ?_
  refine lv_iconst (v := nI 1) zx zb dX11_image_2 (by decide) ?_
  refine callR_Si (As := [.int (nI 1), .int (nI 0), .int (nI 1)]) (rest := []) XX cs_X11_75 (c_X11_within Γ l 1 0 1 ) hP hD hS hA nil_mem nil_D rfl hl.1 rfl ⟨⟨by decide, by decide⟩, by decide, by decide⟩ (Nat.le_of_ble_eq_true rfl) dX11_image_3 (fun r_3 H locs hw hP hS => ?_)
  have hw := hw.symm
  subst hw
  refine lv_if_ne (tgt := 18) zx zb dX11_image_6 (by decide) (fun c_6 => ?_) (fun c_6 => ?_)
  · have c_6 : (wi 1 0 1) = true := bI_ne c_6
    refine lv_aload_n zx zb dX11_image_18 rfl (lv_at hl 0 rfl) ?_
    refine g_get (v := .ref (t 1)) XX hP 0 0 rfl rfl rfl iwX11 2 (by decide) fl_X11_39 rfl dX11_image_19 ?_
    refine lv_iload_n zx zb dX11_image_22 rfl (lv_at hl 1 rfl) ?_
    refine g_aaldO (i := 1) XX hP 12 0 3 rfl rfl rfl (by decide) (by decide) hf dX11_image_23 ?_
    refine lv_ifnonnullN zx zb dX11_image_24 ?_
    refine lv_aload_n zx zb dX11_image_27 rfl (lv_at hl 0 rfl) ?_
    refine g_get (v := .ref (t 1)) XX hP 0 0 rfl rfl rfl iwX11 2 (by decide) fl_X11_39 rfl dX11_image_28 ?_
    refine lv_iload_n zx zb dX11_image_31 rfl (lv_at hl 1 rfl) ?_
    refine g_new (fs := [.null, .null, .null, .int 0]) XX hP hD hS hA 8 rfl iwX8 tyX8_ok cl_X11_25 it_X8 in_X8 (by intro j hj; rcases (show j = 0 ∨ j = 1 ∨ j = 2 ∨ j = 3 by omega) with rfl | rfl | rfl | rfl <;> rfl) (by decide) (by decide) dX11_image_32 (fun q32_1 H hP hD hS => ?_)
    have hP : bP Γ [bTT Γ t s x V, bSt Γ s c y p pc, bCo Γ c k C, bTs Γ c k tr, bKd Γ k, bYr Γ y Y, bYr Γ (p 0) (P 0), bYr Γ (p 1) (P 1), bYr Γ (p 2) (P 2), bYr Γ (p 3) (P 3), bYr Γ (p 4) (P 4), bYr Γ (p 5) (P 5), [(t 1, .inl (Γ.2 3, 2, .inr (.inr (.inr (.inr f)))))], [(q32_1, .inr (8, [.null, .null, .null, .int 0]))]] H := hP
    have hD : bD AA [bTT Γ t s x V, bSt Γ s c y p pc, bCo Γ c k C, bTs Γ c k tr, bKd Γ k, bYr Γ y Y, bYr Γ (p 0) (P 0), bYr Γ (p 1) (P 1), bYr Γ (p 2) (P 2), bYr Γ (p 3) (P 3), bYr Γ (p 4) (P 4), bYr Γ (p 5) (P 5), [(t 1, .inl (Γ.2 3, 2, .inr (.inr (.inr (.inr f)))))], [(q32_1, .inr (8, [.null, .null, .null, .int 0]))]] := hD
    refine lv_dup zx zb dX11_image_35 rfl ?_
    refine lv_aload_n zx zb dX11_image_36 rfl (lv_at hl 0 rfl) ?_
    refine g_get (v := .ref (s 0)) XX hP 0 0 rfl rfl rfl iwX11 0 (by decide) fl_X11_30 rfl dX11_image_37 ?_
    refine g_get (v := .ref (c 0)) XX hP 1 0 rfl rfl rfl iwX8 0 (by decide) fl_X11_100 rfl dX11_image_40 ?_
    refine g_get (v := .ref (k 6)) XX hP 2 0 rfl rfl rfl iwX2 0 (by decide) fl_X11_293 rfl dX11_image_43 ?_
    refine call_Iv (As := [.ref (k 6)]) (rest := [.ref q32_1, .int (nI 1), .ref (t 1)]) XX ci_X11_27 (c_X8_init Γ l q32_1 k ) hP hD hS hA [13, 4] (by decide) rfl (fun _ => rfl) rfl hl.1 rfl ⟨⟨by decide, by decide⟩, by first | decide | omega, by first | decide | omega⟩ (Nat.le_of_ble_eq_true rfl) dX11_image_46 (fun u H locs hw hP hD hS => ?_)
    obtain ⟨u_46_2, rfl⟩ : ∃ z, z = u := ⟨_, rfl⟩
    have w_46_2 := hw
    subst w_46_2
    have hP : bP Γ [bTT Γ t s x V, bSt Γ s c y p pc, bCo Γ c k C, bTs Γ c k tr, bKd Γ k, bYr Γ y Y, bYr Γ (p 0) (P 0), bYr Γ (p 1) (P 1), bYr Γ (p 2) (P 2), bYr Γ (p 3) (P 3), bYr Γ (p 4) (P 4), bYr Γ (p 5) (P 5), [(t 1, .inl (Γ.2 3, 2, .inr (.inr (.inr (.inr f)))))], bSt Γ u_46_2.1 u_46_2.2.1 u_46_2.2.2.1 u_46_2.2.2.2 0, bCo Γ u_46_2.2.1 k (co0 6 coD), bTs Γ u_46_2.2.1 k trD, bYr Γ u_46_2.2.2.1 yr0, bYr Γ (u_46_2.2.2.2 0) yrD, bYr Γ (u_46_2.2.2.2 1) yrD, bYr Γ (u_46_2.2.2.2 2) yrD, bYr Γ (u_46_2.2.2.2 3) yrD, bYr Γ (u_46_2.2.2.2 4) yrD, bYr Γ (u_46_2.2.2.2 5) yrD] H := hP
    have hD : bD AA [bTT Γ t s x V, bSt Γ s c y p pc, bCo Γ c k C, bTs Γ c k tr, bKd Γ k, bYr Γ y Y, bYr Γ (p 0) (P 0), bYr Γ (p 1) (P 1), bYr Γ (p 2) (P 2), bYr Γ (p 3) (P 3), bYr Γ (p 4) (P 4), bYr Γ (p 5) (P 5), [(t 1, .inl (Γ.2 3, 2, .inr (.inr (.inr (.inr f)))))], bSt Γ u_46_2.1 u_46_2.2.1 u_46_2.2.2.1 u_46_2.2.2.2 0, bCo Γ u_46_2.2.1 k (co0 6 coD), bTs Γ u_46_2.2.1 k trD, bYr Γ u_46_2.2.2.1 yr0, bYr Γ (u_46_2.2.2.2 0) yrD, bYr Γ (u_46_2.2.2.2 1) yrD, bYr Γ (u_46_2.2.2.2 2) yrD, bYr Γ (u_46_2.2.2.2 3) yrD, bYr Γ (u_46_2.2.2.2 4) yrD, bYr Γ (u_46_2.2.2.2 5) yrD] := hD
    refine g_aastN (i := 1) (blk' := [(t 1, .inl (Γ.2 3, 2, .inr (.inr (.inr (.inr (va_up f 1 (some (u_46_2.1 0))))))))]) (bs' := [bTT Γ t s x V, bSt Γ s c y p pc, bCo Γ c k C, bTs Γ c k tr, bKd Γ k, bYr Γ y Y, bYr Γ (p 0) (P 0), bYr Γ (p 1) (P 1), bYr Γ (p 2) (P 2), bYr Γ (p 3) (P 3), bYr Γ (p 4) (P 4), bYr Γ (p 5) (P 5), [(t 1, .inl (Γ.2 3, 2, .inr (.inr (.inr (.inr (va_up f 1 (some (u_46_2.1 0))))))))], bSt Γ u_46_2.1 u_46_2.2.1 u_46_2.2.2.1 u_46_2.2.2.2 0, bCo Γ u_46_2.2.1 k (co0 6 coD), bTs Γ u_46_2.2.1 k trD, bYr Γ u_46_2.2.2.1 yr0, bYr Γ (u_46_2.2.2.2 0) yrD, bYr Γ (u_46_2.2.2.2 1) yrD, bYr Γ (u_46_2.2.2.2 2) yrD, bYr Γ (u_46_2.2.2.2 3) yrD, bYr Γ (u_46_2.2.2.2 4) yrD, bYr Γ (u_46_2.2.2.2 5) yrD]) XX hP hD hS 12 0 3 13 0 rfl rfl rfl rfl rfl rfl (by decide) (by decide) rfl rfl dX11_image_49 (fun H locs hP hD hS => ?_)
    refine lv_aload_n zx zb dX11_image_50 rfl (lv_at hl 0 rfl) ?_
    refine g_get (v := .ref (t 1)) XX hP 0 0 rfl rfl rfl iwX11 2 (by decide) fl_X11_39 rfl dX11_image_51 ?_
    refine lv_iload_n zx zb dX11_image_54 rfl (lv_at hl 1 rfl) ?_
    refine g_aald (i := 1) (v := u_46_2.1 0) XX hP 12 0 3 rfl rfl rfl (by decide) (by decide) rfl dX11_image_55 ?_
    refine lv_aload_n zx zb dX11_image_56 rfl (lv_at hl 0 rfl) ?_
    refine g_get (v := .ref (s 0)) XX hP 0 0 rfl rfl rfl iwX11 0 (by decide) fl_X11_30 rfl dX11_image_57 ?_
    refine call_Vv (As := [.ref (s 0)]) (rest := []) XX cv_X11_297 (c_X8_copyOf Γ l u_46_2.1 u_46_2.2.1 u_46_2.2.2.1 u_46_2.2.2.2 k 0 (co0 6 coD) trD yr0 (fun _ => yrD) s c y p pc C tr Y P (htc) (hpc)) hP hD hS hA [13, 14, 15, 16, 17, 18, 19, 20, 21, 22, 1, 2, 3, 5, 6, 7, 8, 9, 10, 11] (by decide) rfl (fun _ => rfl) 13 0 rfl rfl rfl rfl hl.1 rfl ⟨⟨by decide, by decide⟩, by decide, by decide⟩ (Nat.le_of_ble_eq_true rfl) dX11_image_60 (fun u H locs hw hP hD hS => ?_)
    have sa_60 : ∀ a0 a1 a2 a3 a4 a5 a6 a7 a8 a9 a10 a11 a12 a13 a14 a15 a16 a17 a18 a19 a20 a21 a22 n0 n1 n2 n3 n4 n5 n6 n7 n8 n9 n10 n11 n12 n13 n14 n15 n16 n17 n18 n19, setAll [a0, a1, a2, a3, a4, a5, a6, a7, a8, a9, a10, a11, a12, a13, a14, a15, a16, a17, a18, a19, a20, a21, a22] [13, 14, 15, 16, 17, 18, 19, 20, 21, 22, 1, 2, 3, 5, 6, 7, 8, 9, 10, 11] [n0, n1, n2, n3, n4, n5, n6, n7, n8, n9, n10, n11, n12, n13, n14, n15, n16, n17, n18, n19] = [a0, n10, n11, n12, a4, n13, n14, n15, n16, n17, n18, n19, a12, n0, n1, n2, n3, n4, n5, n6, n7, n8, n9] := by intros; simp only [setAll, List.set_cons_zero, List.set_cons_succ]
    rw [sa_60] at hP hD
    obtain ⟨u_60, rfl⟩ : ∃ z, z = u := ⟨_, rfl⟩
    have w_60 := hw
    have hP : bP Γ [bTT Γ t s x V, bSt Γ s c y p pc, bCo Γ c k C, bTs Γ c k tr, bKd Γ k, bYr Γ y Y, bYr Γ (p 0) (P 0), bYr Γ (p 1) (P 1), bYr Γ (p 2) (P 2), bYr Γ (p 3) (P 3), bYr Γ (p 4) (P 4), bYr Γ (p 5) (P 5), [(t 1, .inl (Γ.2 3, 2, .inr (.inr (.inr (.inr (va_up f 1 (some (u_46_2.1 0))))))))], bSt Γ u_46_2.1 u_46_2.2.1 u_46_2.2.2.1 u_46_2.2.2.2 pc, bCo Γ u_46_2.2.1 k C, bTs Γ u_46_2.2.1 k (trCpy tr trD (coTc C)), bYr Γ u_46_2.2.2.1 Y, bYr Γ (u_46_2.2.2.2 0) (yCpy P (fun _ => yrD) pc 0), bYr Γ (u_46_2.2.2.2 1) (yCpy P (fun _ => yrD) pc 1), bYr Γ (u_46_2.2.2.2 2) (yCpy P (fun _ => yrD) pc 2), bYr Γ (u_46_2.2.2.2 3) (yCpy P (fun _ => yrD) pc 3), bYr Γ (u_46_2.2.2.2 4) (yCpy P (fun _ => yrD) pc 4), bYr Γ (u_46_2.2.2.2 5) (yCpy P (fun _ => yrD) pc 5)] H := hP
    have hD : bD AA [bTT Γ t s x V, bSt Γ s c y p pc, bCo Γ c k C, bTs Γ c k tr, bKd Γ k, bYr Γ y Y, bYr Γ (p 0) (P 0), bYr Γ (p 1) (P 1), bYr Γ (p 2) (P 2), bYr Γ (p 3) (P 3), bYr Γ (p 4) (P 4), bYr Γ (p 5) (P 5), [(t 1, .inl (Γ.2 3, 2, .inr (.inr (.inr (.inr (va_up f 1 (some (u_46_2.1 0))))))))], bSt Γ u_46_2.1 u_46_2.2.1 u_46_2.2.2.1 u_46_2.2.2.2 pc, bCo Γ u_46_2.2.1 k C, bTs Γ u_46_2.2.1 k (trCpy tr trD (coTc C)), bYr Γ u_46_2.2.2.1 Y, bYr Γ (u_46_2.2.2.2 0) (yCpy P (fun _ => yrD) pc 0), bYr Γ (u_46_2.2.2.2 1) (yCpy P (fun _ => yrD) pc 1), bYr Γ (u_46_2.2.2.2 2) (yCpy P (fun _ => yrD) pc 2), bYr Γ (u_46_2.2.2.2 3) (yCpy P (fun _ => yrD) pc 3), bYr Γ (u_46_2.2.2.2 4) (yCpy P (fun _ => yrD) pc 4), bYr Γ (u_46_2.2.2.2 5) (yCpy P (fun _ => yrD) pc 5)] := hD
    refine lv_iconst (v := nI 1) zx zb dX11_image_63 (by decide) ?_
    exact fin _ _ (nI 1) (u_46_2.1, u_46_2.2.1, u_46_2.2.2.1, u_46_2.2.2.2) 64 _ dX11_image_64 (fun h => by cases h) rfl hP hD hS
  · have c_6 : (wi 1 0 1) = false := bI_0.mp c_6
    exact absurd c_6 (by decide)

set_option maxHeartbeats 4000000 in
set_option maxRecDepth 100000 in
theorem c_X11_image_old_1 (Γ : GG) (l : Launch) (t : Nat → Nat) (s : Nat → Nat) (x : Nat → Nat) (V : V3) (c : Nat → Nat) (k : Nat → Nat) (y : Nat → Nat) (p : Nat → Nat → Nat) (pc : Nat) (C : CoV) (tr : Nat → TrV) (Y : YrV) (P : Nat → YrV) (s2 : Nat → Nat) (d : Nat → Nat) (z : Nat → Nat) (p2 : Nat → Nat → Nat) (pc2 : Nat) (E : CoV) (tr2 : Nat → TrV) (Z : YrV) (P2 : Nat → YrV) (f : Nat → Option Nat) (htc : C.2.2.2.2.2.2.1 ≤ 6) (hpc : pc ≤ 6) (hf : f 1 = some (s2 0)) : Ci Γ l yX11_image cX11_image 2 (some (.int)) 3 70 0 0 [.ref (t 0), .int (nI 1)] [bTT Γ t s x V, bSt Γ s c y p pc, bCo Γ c k C, bTs Γ c k tr, bYr Γ y Y, bYr Γ (p 0) (P 0), bYr Γ (p 1) (P 1), bYr Γ (p 2) (P 2), bYr Γ (p 3) (P 3), bYr Γ (p 4) (P 4), bYr Γ (p 5) (P 5), bKd Γ k, [(t 1, .inl (Γ.2 3, 2, .inr (.inr (.inr (.inr f)))))], bSt Γ s2 d z p2 pc2, bCo Γ d k E, bTs Γ d k tr2, bYr Γ z Z, bYr Γ (p2 0) (P2 0), bYr Γ (p2 1) (P2 1), bYr Γ (p2 2) (P2 2), bYr Γ (p2 3) (P2 3), bYr Γ (p2 4) (P2 4), bYr Γ (p2 5) (P2 5)] (fun (r : Int32) (u : Unit) => r = nI 1) (fun (u : Unit) => [bTT Γ t s x V, bSt Γ s c y p pc, bCo Γ c k C, bTs Γ c k tr, bYr Γ y Y, bYr Γ (p 0) (P 0), bYr Γ (p 1) (P 1), bYr Γ (p 2) (P 2), bYr Γ (p 3) (P 3), bYr Γ (p 4) (P 4), bYr Γ (p 5) (P 5), bKd Γ k, [(t 1, .inl (Γ.2 3, 2, .inr (.inr (.inr (.inr f)))))], bSt Γ s2 d z p2 pc, bCo Γ d k C, bTs Γ d k (trCpy tr tr2 (coTc C)), bYr Γ z Y, bYr Γ (p2 0) (yCpy P P2 pc 0), bYr Γ (p2 1) (yCpy P P2 pc 1), bYr Γ (p2 2) (yCpy P P2 pc 2), bYr Γ (p2 3) (yCpy P P2 pc 3), bYr Γ (p2 4) (yCpy P P2 pc 4), bYr Γ (p2 5) (yCpy P P2 pc 5)]) := by
  refine Ci.of (Or.inl rfl) (by decide) (Nat.le_of_ble_eq_true rfl) ?_
  intro pp ee ss mm bb me cd AA QQ XX hnm hA hP hD fin ls hl
  obtain ⟨zx, zb, hml, hown, hts, hK⟩ := id XX
  have hS : va_S AA ss.heap ss.heap [] := va_S.rf
  have hl : lv_has ls 2 [(0, .ref (t 0)), (1, .int (nI 1))] := hl
  refine lv_iload_n zx zb dX11_image_0 rfl (lv_at hl 1 rfl) ?_
  refine lv_iconst (v := nI 0) zx zb dX11_image_1 (by decide) ?_
  refine lv_iconst (v := nI 1) zx zb dX11_image_2 (by decide) ?_
  refine callR_Si (As := [.int (nI 1), .int (nI 0), .int (nI 1)]) (rest := []) XX cs_X11_75 (c_X11_within Γ l 1 0 1 ) hP hD hS hA nil_mem nil_D rfl hl.1 rfl ⟨⟨by decide, by decide⟩, by decide, by decide⟩ (Nat.le_of_ble_eq_true rfl) dX11_image_3 (fun r_3 H locs hw hP hS => ?_)
  have hw := hw.symm
  subst hw
  refine lv_if_ne (tgt := 18) zx zb dX11_image_6 (by decide) (fun c_6 => ?_) (fun c_6 => ?_)
  · have c_6 : (wi 1 0 1) = true := bI_ne c_6
    refine lv_aload_n zx zb dX11_image_18 rfl (lv_at hl 0 rfl) ?_
    refine g_get (v := .ref (t 1)) XX hP 0 0 rfl rfl rfl iwX11 2 (by decide) fl_X11_39 rfl dX11_image_19 ?_
    refine lv_iload_n zx zb dX11_image_22 rfl (lv_at hl 1 rfl) ?_
    refine g_aald (i := 1) (v := s2 0) XX hP 12 0 3 rfl rfl rfl (by decide) (by decide) hf dX11_image_23 ?_
    refine lv_ifnonnull (tgt := 50) zx zb dX11_image_24 (by decide) ?_
    refine lv_aload_n zx zb dX11_image_50 rfl (lv_at hl 0 rfl) ?_
    refine g_get (v := .ref (t 1)) XX hP 0 0 rfl rfl rfl iwX11 2 (by decide) fl_X11_39 rfl dX11_image_51 ?_
    refine lv_iload_n zx zb dX11_image_54 rfl (lv_at hl 1 rfl) ?_
    refine g_aald (i := 1) (v := s2 0) XX hP 12 0 3 rfl rfl rfl (by decide) (by decide) hf dX11_image_55 ?_
    refine lv_aload_n zx zb dX11_image_56 rfl (lv_at hl 0 rfl) ?_
    refine g_get (v := .ref (s 0)) XX hP 0 0 rfl rfl rfl iwX11 0 (by decide) fl_X11_30 rfl dX11_image_57 ?_
    refine call_Vv (As := [.ref (s 0)]) (rest := []) XX cv_X11_297 (c_X8_copyOf Γ l s2 d z p2 k pc2 E tr2 Z P2 s c y p pc C tr Y P (htc) (hpc)) hP hD hS hA [13, 14, 15, 16, 17, 18, 19, 20, 21, 22, 1, 2, 3, 4, 5, 6, 7, 8, 9, 10] (by decide) rfl (fun _ => rfl) 13 0 rfl rfl rfl rfl hl.1 rfl ⟨⟨by decide, by decide⟩, by decide, by decide⟩ (Nat.le_of_ble_eq_true rfl) dX11_image_60 (fun u H locs hw hP hD hS => ?_)
    have sa_60 : ∀ a0 a1 a2 a3 a4 a5 a6 a7 a8 a9 a10 a11 a12 a13 a14 a15 a16 a17 a18 a19 a20 a21 a22 n0 n1 n2 n3 n4 n5 n6 n7 n8 n9 n10 n11 n12 n13 n14 n15 n16 n17 n18 n19, setAll [a0, a1, a2, a3, a4, a5, a6, a7, a8, a9, a10, a11, a12, a13, a14, a15, a16, a17, a18, a19, a20, a21, a22] [13, 14, 15, 16, 17, 18, 19, 20, 21, 22, 1, 2, 3, 4, 5, 6, 7, 8, 9, 10] [n0, n1, n2, n3, n4, n5, n6, n7, n8, n9, n10, n11, n12, n13, n14, n15, n16, n17, n18, n19] = [a0, n10, n11, n12, n13, n14, n15, n16, n17, n18, n19, a11, a12, n0, n1, n2, n3, n4, n5, n6, n7, n8, n9] := by intros; simp only [setAll, List.set_cons_zero, List.set_cons_succ]
    rw [sa_60] at hP hD
    obtain ⟨u_60, rfl⟩ : ∃ z, z = u := ⟨_, rfl⟩
    have w_60 := hw
    have hP : bP Γ [bTT Γ t s x V, bSt Γ s c y p pc, bCo Γ c k C, bTs Γ c k tr, bYr Γ y Y, bYr Γ (p 0) (P 0), bYr Γ (p 1) (P 1), bYr Γ (p 2) (P 2), bYr Γ (p 3) (P 3), bYr Γ (p 4) (P 4), bYr Γ (p 5) (P 5), bKd Γ k, [(t 1, .inl (Γ.2 3, 2, .inr (.inr (.inr (.inr f)))))], bSt Γ s2 d z p2 pc, bCo Γ d k C, bTs Γ d k (trCpy tr tr2 (coTc C)), bYr Γ z Y, bYr Γ (p2 0) (yCpy P P2 pc 0), bYr Γ (p2 1) (yCpy P P2 pc 1), bYr Γ (p2 2) (yCpy P P2 pc 2), bYr Γ (p2 3) (yCpy P P2 pc 3), bYr Γ (p2 4) (yCpy P P2 pc 4), bYr Γ (p2 5) (yCpy P P2 pc 5)] H := hP
    have hD : bD AA [bTT Γ t s x V, bSt Γ s c y p pc, bCo Γ c k C, bTs Γ c k tr, bYr Γ y Y, bYr Γ (p 0) (P 0), bYr Γ (p 1) (P 1), bYr Γ (p 2) (P 2), bYr Γ (p 3) (P 3), bYr Γ (p 4) (P 4), bYr Γ (p 5) (P 5), bKd Γ k, [(t 1, .inl (Γ.2 3, 2, .inr (.inr (.inr (.inr f)))))], bSt Γ s2 d z p2 pc, bCo Γ d k C, bTs Γ d k (trCpy tr tr2 (coTc C)), bYr Γ z Y, bYr Γ (p2 0) (yCpy P P2 pc 0), bYr Γ (p2 1) (yCpy P P2 pc 1), bYr Γ (p2 2) (yCpy P P2 pc 2), bYr Γ (p2 3) (yCpy P P2 pc 3), bYr Γ (p2 4) (yCpy P P2 pc 4), bYr Γ (p2 5) (yCpy P P2 pc 5)] := hD
    refine lv_iconst (v := nI 1) zx zb dX11_image_63 (by decide) ?_
    exact fin _ _ (nI 1) () 64 _ dX11_image_64 (fun h => by cases h) rfl hP hD hS
  · have c_6 : (wi 1 0 1) = false := bI_0.mp c_6
    exact absurd c_6 (by decide)

set_option maxHeartbeats 4000000 in
set_option maxRecDepth 100000 in
theorem c_X11_from_old_1 (Γ : GG) (l : Launch) (t : Nat → Nat) (s : Nat → Nat) (x : Nat → Nat) (V : V3) (c : Nat → Nat) (k : Nat → Nat) (y : Nat → Nat) (p : Nat → Nat → Nat) (pc : Nat) (C : CoV) (tr : Nat → TrV) (Y : YrV) (P : Nat → YrV) (s2 : Nat → Nat) (d : Nat → Nat) (z : Nat → Nat) (p2 : Nat → Nat → Nat) (pc2 : Nat) (E : CoV) (tr2 : Nat → TrV) (Z : YrV) (P2 : Nat → YrV) (f : Nat → Option Nat) (htc : E.2.2.2.2.2.2.1 ≤ 6) (hpc : pc2 ≤ 6) (hf : f 1 = some (s2 0)) : Ci Γ l yX11_from cX11_from 2 (some (.int)) 3 70 0 0 [.ref (t 0), .int (nI 1)] [bTT Γ t s x V, bSt Γ s c y p pc, bCo Γ c k C, bTs Γ c k tr, bYr Γ y Y, bYr Γ (p 0) (P 0), bYr Γ (p 1) (P 1), bYr Γ (p 2) (P 2), bYr Γ (p 3) (P 3), bYr Γ (p 4) (P 4), bYr Γ (p 5) (P 5), bKd Γ k, [(t 1, .inl (Γ.2 3, 2, .inr (.inr (.inr (.inr f)))))], bSt Γ s2 d z p2 pc2, bCo Γ d k E, bTs Γ d k tr2, bYr Γ z Z, bYr Γ (p2 0) (P2 0), bYr Γ (p2 1) (P2 1), bYr Γ (p2 2) (P2 2), bYr Γ (p2 3) (P2 3), bYr Γ (p2 4) (P2 4), bYr Γ (p2 5) (P2 5)] (fun (r : Int32) (u : Unit) => r = nI 1) (fun (u : Unit) => [bTT Γ t s x V, bSt Γ s c y p pc2, bCo Γ c k E, bTs Γ c k (trCpy tr2 tr (coTc E)), bYr Γ y Z, bYr Γ (p 0) (yCpy P2 P pc2 0), bYr Γ (p 1) (yCpy P2 P pc2 1), bYr Γ (p 2) (yCpy P2 P pc2 2), bYr Γ (p 3) (yCpy P2 P pc2 3), bYr Γ (p 4) (yCpy P2 P pc2 4), bYr Γ (p 5) (yCpy P2 P pc2 5), bKd Γ k, [(t 1, .inl (Γ.2 3, 2, .inr (.inr (.inr (.inr f)))))], bSt Γ s2 d z p2 pc2, bCo Γ d k E, bTs Γ d k tr2, bYr Γ z Z, bYr Γ (p2 0) (P2 0), bYr Γ (p2 1) (P2 1), bYr Γ (p2 2) (P2 2), bYr Γ (p2 3) (P2 3), bYr Γ (p2 4) (P2 4), bYr Γ (p2 5) (P2 5)]) := by
  refine Ci.of (Or.inl rfl) (by decide) (Nat.le_of_ble_eq_true rfl) ?_
  intro pp ee ss mm bb me cd AA QQ XX hnm hA hP hD fin ls hl
  obtain ⟨zx, zb, hml, hown, hts, hK⟩ := id XX
  have hS : va_S AA ss.heap ss.heap [] := va_S.rf
  have hl : lv_has ls 2 [(0, .ref (t 0)), (1, .int (nI 1))] := hl
  refine lv_iload_n zx zb dX11_from_0 rfl (lv_at hl 1 rfl) ?_
  refine lv_iconst (v := nI 0) zx zb dX11_from_1 (by decide) ?_
  refine lv_iconst (v := nI 1) zx zb dX11_from_2 (by decide) ?_
  refine callR_Si (As := [.int (nI 1), .int (nI 0), .int (nI 1)]) (rest := []) XX cs_X11_75 (c_X11_within Γ l 1 0 1 ) hP hD hS hA nil_mem nil_D rfl hl.1 rfl ⟨⟨by decide, by decide⟩, by decide, by decide⟩ (Nat.le_of_ble_eq_true rfl) dX11_from_3 (fun r_3 H locs hw hP hS => ?_)
  have hw := hw.symm
  subst hw
  refine lv_if_ne (tgt := 18) zx zb dX11_from_6 (by decide) (fun c_6 => ?_) (fun c_6 => ?_)
  · have c_6 : (wi 1 0 1) = true := bI_ne c_6
    refine lv_aload_n zx zb dX11_from_18 rfl (lv_at hl 0 rfl) ?_
    refine g_get (v := .ref (t 1)) XX hP 0 0 rfl rfl rfl iwX11 2 (by decide) fl_X11_39 rfl dX11_from_19 ?_
    refine lv_iload_n zx zb dX11_from_22 rfl (lv_at hl 1 rfl) ?_
    refine g_aald (i := 1) (v := s2 0) XX hP 12 0 3 rfl rfl rfl (by decide) (by decide) hf dX11_from_23 ?_
    refine lv_ifnonnull (tgt := 36) zx zb dX11_from_24 (by decide) ?_
    refine lv_aload_n zx zb dX11_from_36 rfl (lv_at hl 0 rfl) ?_
    refine g_get (v := .ref (s 0)) XX hP 0 0 rfl rfl rfl iwX11 0 (by decide) fl_X11_30 rfl dX11_from_37 ?_
    refine lv_aload_n zx zb dX11_from_40 rfl (lv_at hl 0 rfl) ?_
    refine g_get (v := .ref (t 1)) XX hP 0 0 rfl rfl rfl iwX11 2 (by decide) fl_X11_39 rfl dX11_from_41 ?_
    refine lv_iload_n zx zb dX11_from_44 rfl (lv_at hl 1 rfl) ?_
    refine g_aald (i := 1) (v := s2 0) XX hP 12 0 3 rfl rfl rfl (by decide) (by decide) hf dX11_from_45 ?_
    refine call_Vv (As := [.ref (s2 0)]) (rest := []) XX cv_X11_297 (c_X8_copyOf Γ l s c y p k pc C tr Y P s2 d z p2 pc2 E tr2 Z P2 (htc) (hpc)) hP hD hS hA [1, 2, 3, 4, 5, 6, 7, 8, 9, 10, 13, 14, 15, 16, 17, 18, 19, 20, 21, 22] (by decide) rfl (fun _ => rfl) 1 0 rfl rfl rfl rfl hl.1 rfl ⟨⟨by decide, by decide⟩, by decide, by decide⟩ (Nat.le_of_ble_eq_true rfl) dX11_from_46 (fun u H locs hw hP hD hS => ?_)
    have sa_46 : ∀ a0 a1 a2 a3 a4 a5 a6 a7 a8 a9 a10 a11 a12 a13 a14 a15 a16 a17 a18 a19 a20 a21 a22 n0 n1 n2 n3 n4 n5 n6 n7 n8 n9 n10 n11 n12 n13 n14 n15 n16 n17 n18 n19, setAll [a0, a1, a2, a3, a4, a5, a6, a7, a8, a9, a10, a11, a12, a13, a14, a15, a16, a17, a18, a19, a20, a21, a22] [1, 2, 3, 4, 5, 6, 7, 8, 9, 10, 13, 14, 15, 16, 17, 18, 19, 20, 21, 22] [n0, n1, n2, n3, n4, n5, n6, n7, n8, n9, n10, n11, n12, n13, n14, n15, n16, n17, n18, n19] = [a0, n0, n1, n2, n3, n4, n5, n6, n7, n8, n9, a11, a12, n10, n11, n12, n13, n14, n15, n16, n17, n18, n19] := by intros; simp only [setAll, List.set_cons_zero, List.set_cons_succ]
    rw [sa_46] at hP hD
    obtain ⟨u_46, rfl⟩ : ∃ z, z = u := ⟨_, rfl⟩
    have w_46 := hw
    have hP : bP Γ [bTT Γ t s x V, bSt Γ s c y p pc2, bCo Γ c k E, bTs Γ c k (trCpy tr2 tr (coTc E)), bYr Γ y Z, bYr Γ (p 0) (yCpy P2 P pc2 0), bYr Γ (p 1) (yCpy P2 P pc2 1), bYr Γ (p 2) (yCpy P2 P pc2 2), bYr Γ (p 3) (yCpy P2 P pc2 3), bYr Γ (p 4) (yCpy P2 P pc2 4), bYr Γ (p 5) (yCpy P2 P pc2 5), bKd Γ k, [(t 1, .inl (Γ.2 3, 2, .inr (.inr (.inr (.inr f)))))], bSt Γ s2 d z p2 pc2, bCo Γ d k E, bTs Γ d k tr2, bYr Γ z Z, bYr Γ (p2 0) (P2 0), bYr Γ (p2 1) (P2 1), bYr Γ (p2 2) (P2 2), bYr Γ (p2 3) (P2 3), bYr Γ (p2 4) (P2 4), bYr Γ (p2 5) (P2 5)] H := hP
    have hD : bD AA [bTT Γ t s x V, bSt Γ s c y p pc2, bCo Γ c k E, bTs Γ c k (trCpy tr2 tr (coTc E)), bYr Γ y Z, bYr Γ (p 0) (yCpy P2 P pc2 0), bYr Γ (p 1) (yCpy P2 P pc2 1), bYr Γ (p 2) (yCpy P2 P pc2 2), bYr Γ (p 3) (yCpy P2 P pc2 3), bYr Γ (p 4) (yCpy P2 P pc2 4), bYr Γ (p 5) (yCpy P2 P pc2 5), bKd Γ k, [(t 1, .inl (Γ.2 3, 2, .inr (.inr (.inr (.inr f)))))], bSt Γ s2 d z p2 pc2, bCo Γ d k E, bTs Γ d k tr2, bYr Γ z Z, bYr Γ (p2 0) (P2 0), bYr Γ (p2 1) (P2 1), bYr Γ (p2 2) (P2 2), bYr Γ (p2 3) (P2 3), bYr Γ (p2 4) (P2 4), bYr Γ (p2 5) (P2 5)] := hD
    refine lv_iconst (v := nI 1) zx zb dX11_from_49 (by decide) ?_
    exact fin _ _ (nI 1) () 50 _ dX11_from_50 (fun h => by cases h) rfl hP hD hS
  · have c_6 : (wi 1 0 1) = false := bI_0.mp c_6
    exact absurd c_6 (by decide)
