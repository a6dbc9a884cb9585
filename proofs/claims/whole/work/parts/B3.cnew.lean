theorem ci_X2_43 : CWI RX2 43 yX9_init cX9_init 2 1 := ⟨cd_X9_init, im_X9_init, in_X9, ml_X2_43, rfl, by decide +kernel⟩
theorem cm_X0_1 : CWIN RX0 1 yX6_init RX11 cX6_init 1 0 := ⟨cd_X6_init, im_X6_init, in_X6, nl_X0_1, rfl, by decide +kernel⟩
theorem cm_X1_1 : CWIN RX1 1 yX6_init RX11 cX6_init 1 0 := ⟨cd_X6_init, im_X6_init, in_X6, nl_X1_1, rfl, by decide +kernel⟩
theorem cm_X3_1 : CWIN RX3 1 yX0_init RX11 cX0_init 1 0 := ⟨cd_X0_init, im_X0_init, in_X0, nl_X3_1, rfl, by decide +kernel⟩
theorem cm_X4_1 : CWIN RX4 1 yX5_init RX11 cX5_init 1 0 := ⟨cd_X5_init, im_X5_init, in_X5, nl_X4_1, rfl, by decide +kernel⟩
theorem cm_X5_1 : CWIN RX5 1 yX6_init RX11 cX6_init 1 0 := ⟨cd_X6_init, im_X6_init, in_X6, nl_X5_1, rfl, by decide +kernel⟩
set_option maxHeartbeats 4000000 in
set_option maxRecDepth 100000 in
theorem c_X6_init (Γ : GG) (l : Launch) (a : Nat)  : Cv Γ l yX6_init cX6_init 1 none 1 20 0 0 [.ref a] [] (fun (u : Unit) => True) (fun (u : Unit) => []) := by
  refine Cv.of rfl (by decide) (Nat.le_of_ble_eq_true rfl) ?_
  intro pp ee ss mm bb me cd AA QQ XX hnm hA hP hD fin ls hl
  obtain ⟨zx, zb, hml, hown, hts, hK⟩ := id XX
  have hS : va_S AA ss.heap ss.heap [] := va_S.rf
  have hl : lv_has ls 1 [(0, .ref a)] := hl
  refine lv_aload_n zx zb dX6_init_0 rfl (lv_at hl 0 rfl) ?_
  refine g_obji XX ml_X6_1 hl.1 (Nat.le_of_ble_eq_true rfl) (Nat.le_of_ble_eq_true rfl) dX6_init_1 ?_
  exact fin _ _ () 4 _ dX6_init_4 trivial hP hD hS

set_option maxHeartbeats 4000000 in
set_option maxRecDepth 100000 in
theorem c_X5_init (Γ : GG) (l : Launch) (a : Nat)  : Cv Γ l yX5_init cX5_init 1 none 2 40 0 0 [.ref a] [] (fun (u : Unit) => True) (fun (u : Unit) => []) := by
  refine Cv.of rfl (by decide) (Nat.le_of_ble_eq_true rfl) ?_
  intro pp ee ss mm bb me cd AA QQ XX hnm hA hP hD fin ls hl
  obtain ⟨zx, zb, hml, hown, hts, hK⟩ := id XX
  have hS : va_S AA ss.heap ss.heap [] := va_S.rf
  have hl : lv_has ls 1 [(0, .ref a)] := hl
  refine lv_aload_n zx zb dX5_init_0 rfl (lv_at hl 0 rfl) ?_
  refine call_INv (As := []) (rest := []) XX cm_X5_1 (c_X6_init Γ l a ) hP hD hS hA [] (by decide) rfl (fun _ => rfl) rfl hl.1 rfl ⟨⟨by decide, by decide⟩, by decide, by decide⟩ (Nat.le_of_ble_eq_true rfl) dX5_init_1 (fun u H locs hw hP hD hS => ?_)
  have hP : bP Γ [] H := hP
  have hD : bD AA [] := hD
  exact fin _ _ () 4 _ dX5_init_4 trivial hP hD hS

set_option maxHeartbeats 4000000 in
set_option maxRecDepth 100000 in
theorem c_X1_init (Γ : GG) (l : Launch) (a : Nat)  : Cv Γ l yX1_init cX1_init 1 none 2 40 0 0 [.ref a] [] (fun (u : Unit) => True) (fun (u : Unit) => []) := by
  refine Cv.of rfl (by decide) (Nat.le_of_ble_eq_true rfl) ?_
  intro pp ee ss mm bb me cd AA QQ XX hnm hA hP hD fin ls hl
  obtain ⟨zx, zb, hml, hown, hts, hK⟩ := id XX
  have hS : va_S AA ss.heap ss.heap [] := va_S.rf
  have hl : lv_has ls 1 [(0, .ref a)] := hl
  refine lv_aload_n zx zb dX1_init_0 rfl (lv_at hl 0 rfl) ?_
  refine call_INv (As := []) (rest := []) XX cm_X1_1 (c_X6_init Γ l a ) hP hD hS hA [] (by decide) rfl (fun _ => rfl) rfl hl.1 rfl ⟨⟨by decide, by decide⟩, by decide, by decide⟩ (Nat.le_of_ble_eq_true rfl) dX1_init_1 (fun u H locs hw hP hD hS => ?_)
  have hP : bP Γ [] H := hP
  have hD : bD AA [] := hD
  exact fin _ _ () 4 _ dX1_init_4 trivial hP hD hS

set_option maxHeartbeats 4000000 in
set_option maxRecDepth 100000 in
theorem c_X0_init (Γ : GG) (l : Launch) (a : Nat)  : Cv Γ l yX0_init cX0_init 1 none 2 40 0 0 [.ref a] [] (fun (u : Unit) => True) (fun (u : Unit) => []) := by
  refine Cv.of rfl (by decide) (Nat.le_of_ble_eq_true rfl) ?_
  intro pp ee ss mm bb me cd AA QQ XX hnm hA hP hD fin ls hl
  obtain ⟨zx, zb, hml, hown, hts, hK⟩ := id XX
  have hS : va_S AA ss.heap ss.heap [] := va_S.rf
  have hl : lv_has ls 1 [(0, .ref a)] := hl
  refine lv_aload_n zx zb dX0_init_0 rfl (lv_at hl 0 rfl) ?_
  refine call_INv (As := []) (rest := []) XX cm_X0_1 (c_X6_init Γ l a ) hP hD hS hA [] (by decide) rfl (fun _ => rfl) rfl hl.1 rfl ⟨⟨by decide, by decide⟩, by decide, by decide⟩ (Nat.le_of_ble_eq_true rfl) dX0_init_1 (fun u H locs hw hP hD hS => ?_)
  have hP : bP Γ [] H := hP
  have hD : bD AA [] := hD
  exact fin _ _ () 4 _ dX0_init_4 trivial hP hD hS

set_option maxHeartbeats 4000000 in
set_option maxRecDepth 100000 in
theorem c_X4_init (Γ : GG) (l : Launch) (a : Nat)  : Cv Γ l yX4_init cX4_init 1 none 3 60 0 0 [.ref a] [] (fun (u : Unit) => True) (fun (u : Unit) => []) := by
  refine Cv.of rfl (by decide) (Nat.le_of_ble_eq_true rfl) ?_
  intro pp ee ss mm bb me cd AA QQ XX hnm hA hP hD fin ls hl
  obtain ⟨zx, zb, hml, hown, hts, hK⟩ := id XX
  have hS : va_S AA ss.heap ss.heap [] := va_S.rf
  have hl : lv_has ls 1 [(0, .ref a)] := hl
  refine lv_aload_n zx zb dX4_init_0 rfl (lv_at hl 0 rfl) ?_
  refine call_INv (As := []) (rest := []) XX cm_X4_1 (c_X5_init Γ l a ) hP hD hS hA [] (by decide) rfl (fun _ => rfl) rfl hl.1 rfl ⟨⟨by decide, by decide⟩, by decide, by decide⟩ (Nat.le_of_ble_eq_true rfl) dX4_init_1 (fun u H locs hw hP hD hS => ?_)
  have hP : bP Γ [] H := hP
  have hD : bD AA [] := hD
  exact fin _ _ () 4 _ dX4_init_4 trivial hP hD hS

set_option maxHeartbeats 4000000 in
set_option maxRecDepth 100000 in
theorem c_X3_init (Γ : GG) (l : Launch) (a : Nat)  : Cv Γ l yX3_init cX3_init 1 none 3 60 0 0 [.ref a] [] (fun (u : Unit) => True) (fun (u : Unit) => []) := by
  refine Cv.of rfl (by decide) (Nat.le_of_ble_eq_true rfl) ?_
  intro pp ee ss mm bb me cd AA QQ XX hnm hA hP hD fin ls hl
  obtain ⟨zx, zb, hml, hown, hts, hK⟩ := id XX
  have hS : va_S AA ss.heap ss.heap [] := va_S.rf
  have hl : lv_has ls 1 [(0, .ref a)] := hl
  refine lv_aload_n zx zb dX3_init_0 rfl (lv_at hl 0 rfl) ?_
  refine call_INv (As := []) (rest := []) XX cm_X3_1 (c_X0_init Γ l a ) hP hD hS hA [] (by decide) rfl (fun _ => rfl) rfl hl.1 rfl ⟨⟨by decide, by decide⟩, by decide, by decide⟩ (Nat.le_of_ble_eq_true rfl) dX3_init_1 (fun u H locs hw hP hD hS => ?_)
  have hP : bP Γ [] H := hP
  have hD : bD AA [] := hD
  exact fin _ _ () 4 _ dX3_init_4 trivial hP hD hS

set_option maxHeartbeats 4000000 in
set_option maxRecDepth 100000 in
theorem c_X10_init (Γ : GG) (l : Launch) (a : Nat)  : Cv Γ l yX10_init cX10_init 1 none 1 20 2 16 [.ref a] [[(a, .inr (10, [.int 0, .int 0, .int 0, .null, .null]))]] (fun (u : Nat → Nat) => a = u 0) (fun (u : Nat → Nat) => [bYr Γ u yrD]) := by
  refine Cv.of rfl (by decide) (Nat.le_of_ble_eq_true rfl) ?_
  intro pp ee ss mm bb me cd AA QQ XX hnm hA hP hD fin ls hl
  obtain ⟨zx, zb, hml, hown, hts, hK⟩ := id XX
  have hS : va_S AA ss.heap ss.heap [] := va_S.rf
  have hl : lv_has ls 1 [(0, .ref a)] := hl
  refine lv_aload_n zx zb dX10_init_0 rfl (lv_at hl 0 rfl) ?_
  refine g_obji XX ml_X10_3 hl.1 (Nat.le_of_ble_eq_true rfl) (Nat.le_of_ble_eq_true rfl) dX10_init_1 ?_
  refine lv_aload_n zx zb dX10_init_4 rfl (lv_at hl 0 rfl) ?_
  refine lv_bipush (v := nI 8) zx zb dX10_init_5 (by decide) ?_
  refine g_newI (N := 8) XX hP hD hS hA (by decide) (by decide) (by decide) dX10_init_7 (fun q7_1 H hP hD hS => ?_)
  have hP : bP Γ [[(a, .inr (10, [.int 0, .int 0, .int 0, .null, .null]))], bA Γ q7_1 8 (fun _ => 0)] H := hP
  have hD : bD AA [[(a, .inr (10, [.int 0, .int 0, .int 0, .null, .null]))], bA Γ q7_1 8 (fun _ => 0)] := hD
  refine g_putF (v := .ref q7_1) (blk' := [(a, .inr (10, [.int 0, .int 0, .int 0, .ref q7_1, .null]))]) (bs' := [[(a, .inr (10, [.int 0, .int 0, .int 0, .ref q7_1, .null]))], bA Γ q7_1 8 (fun _ => 0)]) XX hnm hP hD hS 0 0 rfl rfl rfl iwX10 tyX10_ok nmX10 3 (by decide) fl_X10_9 rfl rfl rfl rfl (Nat.le_of_ble_eq_true rfl) rfl rfl dX10_init_9 (fun H locs hP hD hS => ?_)
  refine lv_aload_n zx zb dX10_init_12 rfl (lv_at hl 0 rfl) ?_
  refine lv_bipush (v := nI 8) zx zb dX10_init_13 (by decide) ?_
  refine g_newI (N := 8) XX hP hD hS hA (by decide) (by decide) (by decide) dX10_init_15 (fun q15_2 H hP hD hS => ?_)
  have hP : bP Γ [[(a, .inr (10, [.int 0, .int 0, .int 0, .ref q7_1, .null]))], bA Γ q7_1 8 (fun _ => 0), bA Γ q15_2 8 (fun _ => 0)] H := hP
  have hD : bD AA [[(a, .inr (10, [.int 0, .int 0, .int 0, .ref q7_1, .null]))], bA Γ q7_1 8 (fun _ => 0), bA Γ q15_2 8 (fun _ => 0)] := hD
  refine g_putF (v := .ref q15_2) (blk' := [(a, .inr (10, [.int 0, .int 0, .int 0, .ref q7_1, .ref q15_2]))]) (bs' := [[(a, .inr (10, [.int 0, .int 0, .int 0, .ref q7_1, .ref q15_2]))], bA Γ q7_1 8 (fun _ => 0), bA Γ q15_2 8 (fun _ => 0)]) XX hnm hP hD hS 0 0 rfl rfl rfl iwX10 tyX10_ok nmX10 4 (by decide) fl_X10_15 rfl rfl rfl rfl (Nat.le_of_ble_eq_true rfl) rfl rfl dX10_init_17 (fun H locs hP hD hS => ?_)
  exact fin _ _ (adr [a, q7_1, q15_2]) 20 _ dX10_init_20 rfl (va_P.sub hP [0, 1, 2] rfl) (va_D.sub hD [0, 1, 2] (by decide) rfl) hS

set_option maxHeartbeats 4000000 in
set_option maxRecDepth 100000 in
theorem c_X9_init (Γ : GG) (l : Launch) (a : Nat) (b : Nat)  : Cv Γ l yX9_init cX9_init 2 none 1 20 0 0 [.ref a, .ref b] [[(a, .inr (9, [.null, .int 0, .int 0, .int 0, .int 0, .int 0, .int 0, .int 0]))]] (fun (u : Unit) => True) (fun (u : Unit) => [[(a, .inr (9, [.ref b, .int 0, .int 0, .int 0, .int 0, .int 0, .int 0, .int 0]))]]) := by
  refine Cv.of rfl (by decide) (Nat.le_of_ble_eq_true rfl) ?_
  intro pp ee ss mm bb me cd AA QQ XX hnm hA hP hD fin ls hl
  obtain ⟨zx, zb, hml, hown, hts, hK⟩ := id XX
  have hS : va_S AA ss.heap ss.heap [] := va_S.rf
  have hl : lv_has ls 2 [(0, .ref a), (1, .ref b)] := hl
  refine lv_aload_n zx zb dX9_init_0 rfl (lv_at hl 0 rfl) ?_
  refine g_obji XX ml_X9_1 hl.1 (Nat.le_of_ble_eq_true rfl) (Nat.le_of_ble_eq_true rfl) dX9_init_1 ?_
  refine lv_aload_n zx zb dX9_init_4 rfl (lv_at hl 0 rfl) ?_
  refine lv_aload_n zx zb dX9_init_5 rfl (lv_at hl 1 rfl) ?_
  refine g_put (v := .ref b) (blk' := [(a, .inr (9, [.ref b, .int 0, .int 0, .int 0, .int 0, .int 0, .int 0, .int 0]))]) (bs' := [[(a, .inr (9, [.ref b, .int 0, .int 0, .int 0, .int 0, .int 0, .int 0, .int 0]))]]) XX hP hD hS 0 0 rfl rfl rfl iwX9 tyX9_ok nmX9 0 (by decide) fl_X9_7 rfl rfl rfl (Nat.le_of_ble_eq_true rfl) rfl rfl rfl dX9_init_6 (fun H locs hP hD hS => ?_)
  exact fin _ _ () 9 _ dX9_init_9 trivial (va_P.sub hP [0] rfl) (va_D.sub hD [0] (by decide) rfl) hS

set_option maxHeartbeats 4000000 in
set_option maxRecDepth 100000 in
theorem c_X2_init (Γ : GG) (l : Launch) (a : Nat) (k : Nat → Nat)  : Cv Γ l yX2_init cX2_init 3 none 2 41 14 104 [.ref a, .ref (k 6)] [[(a, .inr (2, [.null, .int 0, .int 0, .null, .null, .null, .null, .null, .int 0, .null, .null, .null, .int 0]))], bKd Γ k] (fun (u : Nat → Nat) => a = u 0) (fun (u : Nat → Nat) => [(bCo Γ u k coD ++ bTs Γ u k trD), bKd Γ k]) := by
  refine Cv.of rfl (by decide) (Nat.le_of_ble_eq_true rfl) ?_
  intro pp ee ss mm bb me cd AA QQ XX hnm hA hP hD fin ls hl
  obtain ⟨zx, zb, hml, hown, hts, hK⟩ := id XX
  have hS : va_S AA ss.heap ss.heap [] := va_S.rf
  have hl : lv_has ls 3 [(0, .ref a), (1, .ref (k 6))] := hl
  refine lv_aload_n zx zb dX2_init_0 rfl (lv_at hl 0 rfl) ?_
  refine g_obji XX ml_X2_3 hl.1 (Nat.le_of_ble_eq_true rfl) (Nat.le_of_ble_eq_true rfl) dX2_init_1 ?_
  refine lv_aload_n zx zb dX2_init_4 rfl (lv_at hl 0 rfl) ?_
  refine lv_bipush (v := nI 8) zx zb dX2_init_5 (by decide) ?_
  refine g_newI (N := 8) XX hP hD hS hA (by decide) (by decide) (by decide) dX2_init_7 (fun q7_1 H hP hD hS => ?_)
  have hP : bP Γ [[(a, .inr (2, [.null, .int 0, .int 0, .null, .null, .null, .null, .null, .int 0, .null, .null, .null, .int 0]))], bKd Γ k, bA Γ q7_1 8 (fun _ => 0)] H := hP
  have hD : bD AA [[(a, .inr (2, [.null, .int 0, .int 0, .null, .null, .null, .null, .null, .int 0, .null, .null, .null, .int 0]))], bKd Γ k, bA Γ q7_1 8 (fun _ => 0)] := hD
  refine g_putF (v := .ref q7_1) (blk' := [(a, .inr (2, [.null, .int 0, .int 0, .ref q7_1, .null, .null, .null, .null, .int 0, .null, .null, .null, .int 0]))]) (bs' := [[(a, .inr (2, [.null, .int 0, .int 0, .ref q7_1, .null, .null, .null, .null, .int 0, .null, .null, .null, .int 0]))], bKd Γ k, bA Γ q7_1 8 (fun _ => 0)]) XX hnm hP hD hS 0 0 rfl rfl rfl iwX2 tyX2_ok nmX2 3 (by decide) fl_X2_9 rfl rfl rfl rfl (Nat.le_of_ble_eq_true rfl) rfl rfl dX2_init_9 (fun H locs hP hD hS => ?_)
  refine lv_aload_n zx zb dX2_init_12 rfl (lv_at hl 0 rfl) ?_
  refine lv_bipush (v := nI 8) zx zb dX2_init_13 (by decide) ?_
  refine g_newI (N := 8) XX hP hD hS hA (by decide) (by decide) (by decide) dX2_init_15 (fun q15_2 H hP hD hS => ?_)
  have hP : bP Γ [[(a, .inr (2, [.null, .int 0, .int 0, .ref q7_1, .null, .null, .null, .null, .int 0, .null, .null, .null, .int 0]))], bKd Γ k, bA Γ q7_1 8 (fun _ => 0), bA Γ q15_2 8 (fun _ => 0)] H := hP
  have hD : bD AA [[(a, .inr (2, [.null, .int 0, .int 0, .ref q7_1, .null, .null, .null, .null, .int 0, .null, .null, .null, .int 0]))], bKd Γ k, bA Γ q7_1 8 (fun _ => 0), bA Γ q15_2 8 (fun _ => 0)] := hD
  refine g_putF (v := .ref q15_2) (blk' := [(a, .inr (2, [.null, .int 0, .int 0, .ref q7_1, .ref q15_2, .null, .null, .null, .int 0, .null, .null, .null, .int 0]))]) (bs' := [[(a, .inr (2, [.null, .int 0, .int 0, .ref q7_1, .ref q15_2, .null, .null, .null, .int 0, .null, .null, .null, .int 0]))], bKd Γ k, bA Γ q7_1 8 (fun _ => 0), bA Γ q15_2 8 (fun _ => 0)]) XX hnm hP hD hS 0 0 rfl rfl rfl iwX2 tyX2_ok nmX2 4 (by decide) fl_X2_15 rfl rfl rfl rfl (Nat.le_of_ble_eq_true rfl) rfl rfl dX2_init_17 (fun H locs hP hD hS => ?_)
  refine lv_aload_n zx zb dX2_init_20 rfl (lv_at hl 0 rfl) ?_
  refine lv_bipush (v := nI 8) zx zb dX2_init_21 (by decide) ?_
  refine g_newI (N := 8) XX hP hD hS hA (by decide) (by decide) (by decide) dX2_init_23 (fun q23_3 H hP hD hS => ?_)
  have hP : bP Γ [[(a, .inr (2, [.null, .int 0, .int 0, .ref q7_1, .ref q15_2, .null, .null, .null, .int 0, .null, .null, .null, .int 0]))], bKd Γ k, bA Γ q7_1 8 (fun _ => 0), bA Γ q15_2 8 (fun _ => 0), bA Γ q23_3 8 (fun _ => 0)] H := hP
  have hD : bD AA [[(a, .inr (2, [.null, .int 0, .int 0, .ref q7_1, .ref q15_2, .null, .null, .null, .int 0, .null, .null, .null, .int 0]))], bKd Γ k, bA Γ q7_1 8 (fun _ => 0), bA Γ q15_2 8 (fun _ => 0), bA Γ q23_3 8 (fun _ => 0)] := hD
  refine g_putF (v := .ref q23_3) (blk' := [(a, .inr (2, [.null, .int 0, .int 0, .ref q7_1, .ref q15_2, .ref q23_3, .null, .null, .int 0, .null, .null, .null, .int 0]))]) (bs' := [[(a, .inr (2, [.null, .int 0, .int 0, .ref q7_1, .ref q15_2, .ref q23_3, .null, .null, .int 0, .null, .null, .null, .int 0]))], bKd Γ k, bA Γ q7_1 8 (fun _ => 0), bA Γ q15_2 8 (fun _ => 0), bA Γ q23_3 8 (fun _ => 0)]) XX hnm hP hD hS 0 0 rfl rfl rfl iwX2 tyX2_ok nmX2 5 (by decide) fl_X2_18 rfl rfl rfl rfl (Nat.le_of_ble_eq_true rfl) rfl rfl dX2_init_25 (fun H locs hP hD hS => ?_)
  refine lv_aload_n zx zb dX2_init_28 rfl (lv_at hl 0 rfl) ?_
  refine lv_bipush (v := nI 8) zx zb dX2_init_29 (by decide) ?_
  refine g_newI (N := 8) XX hP hD hS hA (by decide) (by decide) (by decide) dX2_init_31 (fun q31_4 H hP hD hS => ?_)
  have hP : bP Γ [[(a, .inr (2, [.null, .int 0, .int 0, .ref q7_1, .ref q15_2, .ref q23_3, .null, .null, .int 0, .null, .null, .null, .int 0]))], bKd Γ k, bA Γ q7_1 8 (fun _ => 0), bA Γ q15_2 8 (fun _ => 0), bA Γ q23_3 8 (fun _ => 0), bA Γ q31_4 8 (fun _ => 0)] H := hP
  have hD : bD AA [[(a, .inr (2, [.null, .int 0, .int 0, .ref q7_1, .ref q15_2, .ref q23_3, .null, .null, .int 0, .null, .null, .null, .int 0]))], bKd Γ k, bA Γ q7_1 8 (fun _ => 0), bA Γ q15_2 8 (fun _ => 0), bA Γ q23_3 8 (fun _ => 0), bA Γ q31_4 8 (fun _ => 0)] := hD
  refine g_putF (v := .ref q31_4) (blk' := [(a, .inr (2, [.null, .int 0, .int 0, .ref q7_1, .ref q15_2, .ref q23_3, .ref q31_4, .null, .int 0, .null, .null, .null, .int 0]))]) (bs' := [[(a, .inr (2, [.null, .int 0, .int 0, .ref q7_1, .ref q15_2, .ref q23_3, .ref q31_4, .null, .int 0, .null, .null, .null, .int 0]))], bKd Γ k, bA Γ q7_1 8 (fun _ => 0), bA Γ q15_2 8 (fun _ => 0), bA Γ q23_3 8 (fun _ => 0), bA Γ q31_4 8 (fun _ => 0)]) XX hnm hP hD hS 0 0 rfl rfl rfl iwX2 tyX2_ok nmX2 6 (by decide) fl_X2_21 rfl rfl rfl rfl (Nat.le_of_ble_eq_true rfl) rfl rfl dX2_init_33 (fun H locs hP hD hS => ?_)
  refine lv_aload_n zx zb dX2_init_36 rfl (lv_at hl 0 rfl) ?_
  refine lv_bipush (v := nI 6) zx zb dX2_init_37 (by decide) ?_
  refine g_newq (N := 6) XX hP hD hS hA 4 rfl cl_X2_24 hK.2.2.2.2.1 (by decide) (by decide) (by decide) dX2_init_39 (fun q39_5 H hP hD hS => ?_)
  have hP : bP Γ [[(a, .inr (2, [.null, .int 0, .int 0, .ref q7_1, .ref q15_2, .ref q23_3, .ref q31_4, .null, .int 0, .null, .null, .null, .int 0]))], bKd Γ k, bA Γ q7_1 8 (fun _ => 0), bA Γ q15_2 8 (fun _ => 0), bA Γ q23_3 8 (fun _ => 0), bA Γ q31_4 8 (fun _ => 0), [(q39_5, .inl (Γ.2 4, 6, .inr (.inr (.inr (.inr (fun _ => none))))))]] H := hP
  have hD : bD AA [[(a, .inr (2, [.null, .int 0, .int 0, .ref q7_1, .ref q15_2, .ref q23_3, .ref q31_4, .null, .int 0, .null, .null, .null, .int 0]))], bKd Γ k, bA Γ q7_1 8 (fun _ => 0), bA Γ q15_2 8 (fun _ => 0), bA Γ q23_3 8 (fun _ => 0), bA Γ q31_4 8 (fun _ => 0), [(q39_5, .inl (Γ.2 4, 6, .inr (.inr (.inr (.inr (fun _ => none))))))]] := hD
  refine g_putF (v := .ref q39_5) (blk' := [(a, .inr (2, [.null, .int 0, .int 0, .ref q7_1, .ref q15_2, .ref q23_3, .ref q31_4, .ref q39_5, .int 0, .null, .null, .null, .int 0]))]) (bs' := [[(a, .inr (2, [.null, .int 0, .int 0, .ref q7_1, .ref q15_2, .ref q23_3, .ref q31_4, .ref q39_5, .int 0, .null, .null, .null, .int 0]))], bKd Γ k, bA Γ q7_1 8 (fun _ => 0), bA Γ q15_2 8 (fun _ => 0), bA Γ q23_3 8 (fun _ => 0), bA Γ q31_4 8 (fun _ => 0), [(q39_5, .inl (Γ.2 4, 6, .inr (.inr (.inr (.inr (fun _ => none))))))]]) XX hnm hP hD hS 0 0 rfl rfl rfl iwX2 tyX2_ok nmX2 7 (by decide) fl_X2_26 rfl rfl rfl rfl (Nat.le_of_ble_eq_true rfl) rfl rfl dX2_init_42 (fun H locs hP hD hS => ?_)
  refine lv_aload_n zx zb dX2_init_45 rfl (lv_at hl 0 rfl) ?_
  refine lv_bipush (v := nI 6) zx zb dX2_init_46 (by decide) ?_
  refine g_newI (N := 6) XX hP hD hS hA (by decide) (by decide) (by decide) dX2_init_48 (fun q48_6 H hP hD hS => ?_)
  have hP : bP Γ [[(a, .inr (2, [.null, .int 0, .int 0, .ref q7_1, .ref q15_2, .ref q23_3, .ref q31_4, .ref q39_5, .int 0, .null, .null, .null, .int 0]))], bKd Γ k, bA Γ q7_1 8 (fun _ => 0), bA Γ q15_2 8 (fun _ => 0), bA Γ q23_3 8 (fun _ => 0), bA Γ q31_4 8 (fun _ => 0), [(q39_5, .inl (Γ.2 4, 6, .inr (.inr (.inr (.inr (fun _ => none))))))], bA Γ q48_6 6 (fun _ => 0)] H := hP
  have hD : bD AA [[(a, .inr (2, [.null, .int 0, .int 0, .ref q7_1, .ref q15_2, .ref q23_3, .ref q31_4, .ref q39_5, .int 0, .null, .null, .null, .int 0]))], bKd Γ k, bA Γ q7_1 8 (fun _ => 0), bA Γ q15_2 8 (fun _ => 0), bA Γ q23_3 8 (fun _ => 0), bA Γ q31_4 8 (fun _ => 0), [(q39_5, .inl (Γ.2 4, 6, .inr (.inr (.inr (.inr (fun _ => none))))))], bA Γ q48_6 6 (fun _ => 0)] := hD
  refine g_putF (v := .ref q48_6) (blk' := [(a, .inr (2, [.null, .int 0, .int 0, .ref q7_1, .ref q15_2, .ref q23_3, .ref q31_4, .ref q39_5, .int 0, .ref q48_6, .null, .null, .int 0]))]) (bs' := [[(a, .inr (2, [.null, .int 0, .int 0, .ref q7_1, .ref q15_2, .ref q23_3, .ref q31_4, .ref q39_5, .int 0, .ref q48_6, .null, .null, .int 0]))], bKd Γ k, bA Γ q7_1 8 (fun _ => 0), bA Γ q15_2 8 (fun _ => 0), bA Γ q23_3 8 (fun _ => 0), bA Γ q31_4 8 (fun _ => 0), [(q39_5, .inl (Γ.2 4, 6, .inr (.inr (.inr (.inr (fun _ => none))))))], bA Γ q48_6 6 (fun _ => 0)]) XX hnm hP hD hS 0 0 rfl rfl rfl iwX2 tyX2_ok nmX2 9 (by decide) fl_X2_30 rfl rfl rfl rfl (Nat.le_of_ble_eq_true rfl) rfl rfl dX2_init_50 (fun H locs hP hD hS => ?_)
  refine lv_aload_n zx zb dX2_init_53 rfl (lv_at hl 0 rfl) ?_
  refine lv_bipush (v := nI 6) zx zb dX2_init_54 (by decide) ?_
  refine g_newI (N := 6) XX hP hD hS hA (by decide) (by decide) (by decide) dX2_init_56 (fun q56_7 H hP hD hS => ?_)
  have hP : bP Γ [[(a, .inr (2, [.null, .int 0, .int 0, .ref q7_1, .ref q15_2, .ref q23_3, .ref q31_4, .ref q39_5, .int 0, .ref q48_6, .null, .null, .int 0]))], bKd Γ k, bA Γ q7_1 8 (fun _ => 0), bA Γ q15_2 8 (fun _ => 0), bA Γ q23_3 8 (fun _ => 0), bA Γ q31_4 8 (fun _ => 0), [(q39_5, .inl (Γ.2 4, 6, .inr (.inr (.inr (.inr (fun _ => none))))))], bA Γ q48_6 6 (fun _ => 0), bA Γ q56_7 6 (fun _ => 0)] H := hP
  have hD : bD AA [[(a, .inr (2, [.null, .int 0, .int 0, .ref q7_1, .ref q15_2, .ref q23_3, .ref q31_4, .ref q39_5, .int 0, .ref q48_6, .null, .null, .int 0]))], bKd Γ k, bA Γ q7_1 8 (fun _ => 0), bA Γ q15_2 8 (fun _ => 0), bA Γ q23_3 8 (fun _ => 0), bA Γ q31_4 8 (fun _ => 0), [(q39_5, .inl (Γ.2 4, 6, .inr (.inr (.inr (.inr (fun _ => none))))))], bA Γ q48_6 6 (fun _ => 0), bA Γ q56_7 6 (fun _ => 0)] := hD
  refine g_putF (v := .ref q56_7) (blk' := [(a, .inr (2, [.null, .int 0, .int 0, .ref q7_1, .ref q15_2, .ref q23_3, .ref q31_4, .ref q39_5, .int 0, .ref q48_6, .ref q56_7, .null, .int 0]))]) (bs' := [[(a, .inr (2, [.null, .int 0, .int 0, .ref q7_1, .ref q15_2, .ref q23_3, .ref q31_4, .ref q39_5, .int 0, .ref q48_6, .ref q56_7, .null, .int 0]))], bKd Γ k, bA Γ q7_1 8 (fun _ => 0), bA Γ q15_2 8 (fun _ => 0), bA Γ q23_3 8 (fun _ => 0), bA Γ q31_4 8 (fun _ => 0), [(q39_5, .inl (Γ.2 4, 6, .inr (.inr (.inr (.inr (fun _ => none))))))], bA Γ q48_6 6 (fun _ => 0), bA Γ q56_7 6 (fun _ => 0)]) XX hnm hP hD hS 0 0 rfl rfl rfl iwX2 tyX2_ok nmX2 10 (by decide) fl_X2_33 rfl rfl rfl rfl (Nat.le_of_ble_eq_true rfl) rfl rfl dX2_init_58 (fun H locs hP hD hS => ?_)
  refine lv_aload_n zx zb dX2_init_61 rfl (lv_at hl 0 rfl) ?_
  refine lv_bipush (v := nI 6) zx zb dX2_init_62 (by decide) ?_
  refine g_newI (N := 6) XX hP hD hS hA (by decide) (by decide) (by decide) dX2_init_64 (fun q64_8 H hP hD hS => ?_)
  have hP : bP Γ [[(a, .inr (2, [.null, .int 0, .int 0, .ref q7_1, .ref q15_2, .ref q23_3, .ref q31_4, .ref q39_5, .int 0, .ref q48_6, .ref q56_7, .null, .int 0]))], bKd Γ k, bA Γ q7_1 8 (fun _ => 0), bA Γ q15_2 8 (fun _ => 0), bA Γ q23_3 8 (fun _ => 0), bA Γ q31_4 8 (fun _ => 0), [(q39_5, .inl (Γ.2 4, 6, .inr (.inr (.inr (.inr (fun _ => none))))))], bA Γ q48_6 6 (fun _ => 0), bA Γ q56_7 6 (fun _ => 0), bA Γ q64_8 6 (fun _ => 0)] H := hP
  have hD : bD AA [[(a, .inr (2, [.null, .int 0, .int 0, .ref q7_1, .ref q15_2, .ref q23_3, .ref q31_4, .ref q39_5, .int 0, .ref q48_6, .ref q56_7, .null, .int 0]))], bKd Γ k, bA Γ q7_1 8 (fun _ => 0), bA Γ q15_2 8 (fun _ => 0), bA Γ q23_3 8 (fun _ => 0), bA Γ q31_4 8 (fun _ => 0), [(q39_5, .inl (Γ.2 4, 6, .inr (.inr (.inr (.inr (fun _ => none))))))], bA Γ q48_6 6 (fun _ => 0), bA Γ q56_7 6 (fun _ => 0), bA Γ q64_8 6 (fun _ => 0)] := hD
  refine g_putF (v := .ref q64_8) (blk' := [(a, .inr (2, [.null, .int 0, .int 0, .ref q7_1, .ref q15_2, .ref q23_3, .ref q31_4, .ref q39_5, .int 0, .ref q48_6, .ref q56_7, .ref q64_8, .int 0]))]) (bs' := [[(a, .inr (2, [.null, .int 0, .int 0, .ref q7_1, .ref q15_2, .ref q23_3, .ref q31_4, .ref q39_5, .int 0, .ref q48_6, .ref q56_7, .ref q64_8, .int 0]))], bKd Γ k, bA Γ q7_1 8 (fun _ => 0), bA Γ q15_2 8 (fun _ => 0), bA Γ q23_3 8 (fun _ => 0), bA Γ q31_4 8 (fun _ => 0), [(q39_5, .inl (Γ.2 4, 6, .inr (.inr (.inr (.inr (fun _ => none))))))], bA Γ q48_6 6 (fun _ => 0), bA Γ q56_7 6 (fun _ => 0), bA Γ q64_8 6 (fun _ => 0)]) XX hnm hP hD hS 0 0 rfl rfl rfl iwX2 tyX2_ok nmX2 11 (by decide) fl_X2_36 rfl rfl rfl rfl (Nat.le_of_ble_eq_true rfl) rfl rfl dX2_init_66 (fun H locs hP hD hS => ?_)
  refine lv_aload_n zx zb dX2_init_69 rfl (lv_at hl 0 rfl) ?_
  refine lv_aload_n zx zb dX2_init_70 rfl (lv_at hl 1 rfl) ?_
  refine g_putF (v := .ref (k 6)) (blk' := [(a, .inr (2, [.ref (k 6), .int 0, .int 0, .ref q7_1, .ref q15_2, .ref q23_3, .ref q31_4, .ref q39_5, .int 0, .ref q48_6, .ref q56_7, .ref q64_8, .int 0]))]) (bs' := [[(a, .inr (2, [.ref (k 6), .int 0, .int 0, .ref q7_1, .ref q15_2, .ref q23_3, .ref q31_4, .ref q39_5, .int 0, .ref q48_6, .ref q56_7, .ref q64_8, .int 0]))], bKd Γ k, bA Γ q7_1 8 (fun _ => 0), bA Γ q15_2 8 (fun _ => 0), bA Γ q23_3 8 (fun _ => 0), bA Γ q31_4 8 (fun _ => 0), [(q39_5, .inl (Γ.2 4, 6, .inr (.inr (.inr (.inr (fun _ => none))))))], bA Γ q48_6 6 (fun _ => 0), bA Γ q56_7 6 (fun _ => 0), bA Γ q64_8 6 (fun _ => 0)]) XX hnm hP hD hS 0 0 rfl rfl rfl iwX2 tyX2_ok nmX2 0 (by decide) fl_X2_39 rfl rfl rfl rfl (Nat.le_of_ble_eq_true rfl) rfl rfl dX2_init_71 (fun H locs hP hD hS => ?_)
  refine lv_iconst (v := nI 0) zx zb dX2_init_74 (by decide) ?_
  refine lv_istore_n (lv' := [(2, .int (nI 0)), (0, .ref a), (1, .ref (k 6))]) zx zb dX2_init_75 rfl hl (by decide) rfl (fun ls hl => ?_)
  refine lv_iload_n zx zb dX2_init_76 rfl (lv_at hl 0 rfl) ?_
  refine lv_bipush (v := nI 6) zx zb dX2_init_77 (by decide) ?_
  refine lv_icmp_ge (tgt := 104) zx zb dX2_init_79 (by decide) (fun c_79 => ?_) (fun c_79 => ?_)
  · exact absurd c_79 (by decide)
  · clear c_79
    refine lv_aload_n zx zb dX2_init_82 rfl (lv_at hl 1 rfl) ?_
    refine g_get (v := .ref q39_5) XX hP 0 0 rfl rfl rfl iwX2 7 (by decide) fl_X2_26 rfl dX2_init_83 ?_
    refine lv_iload_n zx zb dX2_init_86 rfl (lv_at hl 0 rfl) ?_
    refine g_new (fs := [.null, .int 0, .int 0, .int 0, .int 0, .int 0, .int 0, .int 0]) XX hP hD hS hA 9 rfl iwX9 tyX9_ok cl_X2_24 it_X9 in_X9 (by intro j hj; rcases (show j = 0 ∨ j = 1 ∨ j = 2 ∨ j = 3 ∨ j = 4 ∨ j = 5 ∨ j = 6 ∨ j = 7 by omega) with rfl | rfl | rfl | rfl | rfl | rfl | rfl | rfl <;> rfl) (by decide) (by decide) dX2_init_87 (fun q87_9 H hP hD hS => ?_)
    have hP : bP Γ [[(a, .inr (2, [.ref (k 6), .int 0, .int 0, .ref q7_1, .ref q15_2, .ref q23_3, .ref q31_4, .ref q39_5, .int 0, .ref q48_6, .ref q56_7, .ref q64_8, .int 0]))], bKd Γ k, bA Γ q7_1 8 (fun _ => 0), bA Γ q15_2 8 (fun _ => 0), bA Γ q23_3 8 (fun _ => 0), bA Γ q31_4 8 (fun _ => 0), [(q39_5, .inl (Γ.2 4, 6, .inr (.inr (.inr (.inr (fun _ => none))))))], bA Γ q48_6 6 (fun _ => 0), bA Γ q56_7 6 (fun _ => 0), bA Γ q64_8 6 (fun _ => 0), [(q87_9, .inr (9, [.null, .int 0, .int 0, .int 0, .int 0, .int 0, .int 0, .int 0]))]] H := hP
    have hD : bD AA [[(a, .inr (2, [.ref (k 6), .int 0, .int 0, .ref q7_1, .ref q15_2, .ref q23_3, .ref q31_4, .ref q39_5, .int 0, .ref q48_6, .ref q56_7, .ref q64_8, .int 0]))], bKd Γ k, bA Γ q7_1 8 (fun _ => 0), bA Γ q15_2 8 (fun _ => 0), bA Γ q23_3 8 (fun _ => 0), bA Γ q31_4 8 (fun _ => 0), [(q39_5, .inl (Γ.2 4, 6, .inr (.inr (.inr (.inr (fun _ => none))))))], bA Γ q48_6 6 (fun _ => 0), bA Γ q56_7 6 (fun _ => 0), bA Γ q64_8 6 (fun _ => 0), [(q87_9, .inr (9, [.null, .int 0, .int 0, .int 0, .int 0, .int 0, .int 0, .int 0]))]] := hD
    refine lv_dup zx zb dX2_init_90 rfl ?_
    refine lv_aload_n zx zb dX2_init_91 rfl (lv_at hl 2 rfl) ?_
    refine lv_iconst (v := nI 0) zx zb dX2_init_92 (by decide) ?_
    refine g_aald (i := 0) (v := k 0) XX hP 1 0 2 rfl rfl rfl (by decide) (by decide) rfl dX2_init_93 ?_
    refine call_Iv (As := [.ref (k 0)]) (rest := [.ref q87_9, .int (nI 0), .ref q39_5]) XX ci_X2_43 (c_X9_init Γ l q87_9 (k 0) ) hP hD hS hA [10] (by decide) rfl (fun _ => rfl) rfl hl.1 rfl ⟨⟨by decide, by decide⟩, by decide, by decide⟩ (Nat.le_of_ble_eq_true rfl) dX2_init_94 (fun u H locs hw hP hD hS => ?_)
    have hP : bP Γ [[(a, .inr (2, [.ref (k 6), .int 0, .int 0, .ref q7_1, .ref q15_2, .ref q23_3, .ref q31_4, .ref q39_5, .int 0, .ref q48_6, .ref q56_7, .ref q64_8, .int 0]))], bKd Γ k, bA Γ q7_1 8 (fun _ => 0), bA Γ q15_2 8 (fun _ => 0), bA Γ q23_3 8 (fun _ => 0), bA Γ q31_4 8 (fun _ => 0), [(q39_5, .inl (Γ.2 4, 6, .inr (.inr (.inr (.inr (fun _ => none))))))], bA Γ q48_6 6 (fun _ => 0), bA Γ q56_7 6 (fun _ => 0), bA Γ q64_8 6 (fun _ => 0), [(q87_9, .inr (9, [.ref (k 0), .int 0, .int 0, .int 0, .int 0, .int 0, .int 0, .int 0]))]] H := hP
    have hD : bD AA [[(a, .inr (2, [.ref (k 6), .int 0, .int 0, .ref q7_1, .ref q15_2, .ref q23_3, .ref q31_4, .ref q39_5, .int 0, .ref q48_6, .ref q56_7, .ref q64_8, .int 0]))], bKd Γ k, bA Γ q7_1 8 (fun _ => 0), bA Γ q15_2 8 (fun _ => 0), bA Γ q23_3 8 (fun _ => 0), bA Γ q31_4 8 (fun _ => 0), [(q39_5, .inl (Γ.2 4, 6, .inr (.inr (.inr (.inr (fun _ => none))))))], bA Γ q48_6 6 (fun _ => 0), bA Γ q56_7 6 (fun _ => 0), bA Γ q64_8 6 (fun _ => 0), [(q87_9, .inr (9, [.ref (k 0), .int 0, .int 0, .int 0, .int 0, .int 0, .int 0, .int 0]))]] := hD
    refine g_aastN (i := 0) (blk' := [(q39_5, .inl (Γ.2 4, 6, .inr (.inr (.inr (.inr (va_up (fun _ => none) 0 (some q87_9)))))))]) (bs' := [[(a, .inr (2, [.ref (k 6), .int 0, .int 0, .ref q7_1, .ref q15_2, .ref q23_3, .ref q31_4, .ref q39_5, .int 0, .ref q48_6, .ref q56_7, .ref q64_8, .int 0]))], bKd Γ k, bA Γ q7_1 8 (fun _ => 0), bA Γ q15_2 8 (fun _ => 0), bA Γ q23_3 8 (fun _ => 0), bA Γ q31_4 8 (fun _ => 0), [(q39_5, .inl (Γ.2 4, 6, .inr (.inr (.inr (.inr (va_up (fun _ => none) 0 (some q87_9)))))))], bA Γ q48_6 6 (fun _ => 0), bA Γ q56_7 6 (fun _ => 0), bA Γ q64_8 6 (fun _ => 0), [(q87_9, .inr (9, [.ref (k 0), .int 0, .int 0, .int 0, .int 0, .int 0, .int 0, .int 0]))]]) XX hP hD hS 6 0 4 10 0 rfl rfl rfl rfl rfl rfl (by decide) (by decide) rfl rfl dX2_init_97 (fun H locs hP hD hS => ?_)
    refine lv_iinc (v := nI 1) (lv' := [(2, .int (nI 1)), (0, .ref a), (1, .ref (k 6))]) zx zb dX2_init_98 hl (k := 0) rfl (nI_inc _ 1) (by decide) rfl (fun ls hl => ?_)
    refine lv_goto (tgt := 76) zx zb dX2_init_101 (by decide) ?_
    refine lv_iload_n zx zb dX2_init_76 rfl (lv_at hl 0 rfl) ?_
    refine lv_bipush (v := nI 6) zx zb dX2_init_77 (by decide) ?_
    refine lv_icmp_ge (tgt := 104) zx zb dX2_init_79 (by decide) (fun c_79 => ?_) (fun c_79 => ?_)
    · exact absurd c_79 (by decide)
    · clear c_79
      refine lv_aload_n zx zb dX2_init_82 rfl (lv_at hl 1 rfl) ?_
      refine g_get (v := .ref q39_5) XX hP 0 0 rfl rfl rfl iwX2 7 (by decide) fl_X2_26 rfl dX2_init_83 ?_
      refine lv_iload_n zx zb dX2_init_86 rfl (lv_at hl 0 rfl) ?_
      refine g_new (fs := [.null, .int 0, .int 0, .int 0, .int 0, .int 0, .int 0, .int 0]) XX hP hD hS hA 9 rfl iwX9 tyX9_ok cl_X2_24 it_X9 in_X9 (by intro j hj; rcases (show j = 0 ∨ j = 1 ∨ j = 2 ∨ j = 3 ∨ j = 4 ∨ j = 5 ∨ j = 6 ∨ j = 7 by omega) with rfl | rfl | rfl | rfl | rfl | rfl | rfl | rfl <;> rfl) (by decide) (by decide) dX2_init_87 (fun q87_10 H hP hD hS => ?_)
      have hP : bP Γ [[(a, .inr (2, [.ref (k 6), .int 0, .int 0, .ref q7_1, .ref q15_2, .ref q23_3, .ref q31_4, .ref q39_5, .int 0, .ref q48_6, .ref q56_7, .ref q64_8, .int 0]))], bKd Γ k, bA Γ q7_1 8 (fun _ => 0), bA Γ q15_2 8 (fun _ => 0), bA Γ q23_3 8 (fun _ => 0), bA Γ q31_4 8 (fun _ => 0), [(q39_5, .inl (Γ.2 4, 6, .inr (.inr (.inr (.inr (va_up (fun _ => none) 0 (some q87_9)))))))], bA Γ q48_6 6 (fun _ => 0), bA Γ q56_7 6 (fun _ => 0), bA Γ q64_8 6 (fun _ => 0), [(q87_9, .inr (9, [.ref (k 0), .int 0, .int 0, .int 0, .int 0, .int 0, .int 0, .int 0]))], [(q87_10, .inr (9, [.null, .int 0, .int 0, .int 0, .int 0, .int 0, .int 0, .int 0]))]] H := hP
      have hD : bD AA [[(a, .inr (2, [.ref (k 6), .int 0, .int 0, .ref q7_1, .ref q15_2, .ref q23_3, .ref q31_4, .ref q39_5, .int 0, .ref q48_6, .ref q56_7, .ref q64_8, .int 0]))], bKd Γ k, bA Γ q7_1 8 (fun _ => 0), bA Γ q15_2 8 (fun _ => 0), bA Γ q23_3 8 (fun _ => 0), bA Γ q31_4 8 (fun _ => 0), [(q39_5, .inl (Γ.2 4, 6, .inr (.inr (.inr (.inr (va_up (fun _ => none) 0 (some q87_9)))))))], bA Γ q48_6 6 (fun _ => 0), bA Γ q56_7 6 (fun _ => 0), bA Γ q64_8 6 (fun _ => 0), [(q87_9, .inr (9, [.ref (k 0), .int 0, .int 0, .int 0, .int 0, .int 0, .int 0, .int 0]))], [(q87_10, .inr (9, [.null, .int 0, .int 0, .int 0, .int 0, .int 0, .int 0, .int 0]))]] := hD
      refine lv_dup zx zb dX2_init_90 rfl ?_
      refine lv_aload_n zx zb dX2_init_91 rfl (lv_at hl 2 rfl) ?_
      refine lv_iconst (v := nI 0) zx zb dX2_init_92 (by decide) ?_
      refine g_aald (i := 0) (v := k 0) XX hP 1 0 2 rfl rfl rfl (by decide) (by decide) rfl dX2_init_93 ?_
      refine call_Iv (As := [.ref (k 0)]) (rest := [.ref q87_10, .int (nI 1), .ref q39_5]) XX ci_X2_43 (c_X9_init Γ l q87_10 (k 0) ) hP hD hS hA [11] (by decide) rfl (fun _ => rfl) rfl hl.1 rfl ⟨⟨by decide, by decide⟩, by decide, by decide⟩ (Nat.le_of_ble_eq_true rfl) dX2_init_94 (fun u H locs hw hP hD hS => ?_)
      have hP : bP Γ [[(a, .inr (2, [.ref (k 6), .int 0, .int 0, .ref q7_1, .ref q15_2, .ref q23_3, .ref q31_4, .ref q39_5, .int 0, .ref q48_6, .ref q56_7, .ref q64_8, .int 0]))], bKd Γ k, bA Γ q7_1 8 (fun _ => 0), bA Γ q15_2 8 (fun _ => 0), bA Γ q23_3 8 (fun _ => 0), bA Γ q31_4 8 (fun _ => 0), [(q39_5, .inl (Γ.2 4, 6, .inr (.inr (.inr (.inr (va_up (fun _ => none) 0 (some q87_9)))))))], bA Γ q48_6 6 (fun _ => 0), bA Γ q56_7 6 (fun _ => 0), bA Γ q64_8 6 (fun _ => 0), [(q87_9, .inr (9, [.ref (k 0), .int 0, .int 0, .int 0, .int 0, .int 0, .int 0, .int 0]))], [(q87_10, .inr (9, [.ref (k 0), .int 0, .int 0, .int 0, .int 0, .int 0, .int 0, .int 0]))]] H := hP
      have hD : bD AA [[(a, .inr (2, [.ref (k 6), .int 0, .int 0, .ref q7_1, .ref q15_2, .ref q23_3, .ref q31_4, .ref q39_5, .int 0, .ref q48_6, .ref q56_7, .ref q64_8, .int 0]))], bKd Γ k, bA Γ q7_1 8 (fun _ => 0), bA Γ q15_2 8 (fun _ => 0), bA Γ q23_3 8 (fun _ => 0), bA Γ q31_4 8 (fun _ => 0), [(q39_5, .inl (Γ.2 4, 6, .inr (.inr (.inr (.inr (va_up (fun _ => none) 0 (some q87_9)))))))], bA Γ q48_6 6 (fun _ => 0), bA Γ q56_7 6 (fun _ => 0), bA Γ q64_8 6 (fun _ => 0), [(q87_9, .inr (9, [.ref (k 0), .int 0, .int 0, .int 0, .int 0, .int 0, .int 0, .int 0]))], [(q87_10, .inr (9, [.ref (k 0), .int 0, .int 0, .int 0, .int 0, .int 0, .int 0, .int 0]))]] := hD
      refine g_aastN (i := 1) (blk' := [(q39_5, .inl (Γ.2 4, 6, .inr (.inr (.inr (.inr (va_up (va_up (fun _ => none) 0 (some q87_9)) 1 (some q87_10)))))))]) (bs' := [[(a, .inr (2, [.ref (k 6), .int 0, .int 0, .ref q7_1, .ref q15_2, .ref q23_3, .ref q31_4, .ref q39_5, .int 0, .ref q48_6, .ref q56_7, .ref q64_8, .int 0]))], bKd Γ k, bA Γ q7_1 8 (fun _ => 0), bA Γ q15_2 8 (fun _ => 0), bA Γ q23_3 8 (fun _ => 0), bA Γ q31_4 8 (fun _ => 0), [(q39_5, .inl (Γ.2 4, 6, .inr (.inr (.inr (.inr (va_up (va_up (fun _ => none) 0 (some q87_9)) 1 (some q87_10)))))))], bA Γ q48_6 6 (fun _ => 0), bA Γ q56_7 6 (fun _ => 0), bA Γ q64_8 6 (fun _ => 0), [(q87_9, .inr (9, [.ref (k 0), .int 0, .int 0, .int 0, .int 0, .int 0, .int 0, .int 0]))], [(q87_10, .inr (9, [.ref (k 0), .int 0, .int 0, .int 0, .int 0, .int 0, .int 0, .int 0]))]]) XX hP hD hS 6 0 4 11 0 rfl rfl rfl rfl rfl rfl (by decide) (by decide) rfl rfl dX2_init_97 (fun H locs hP hD hS => ?_)
      refine lv_iinc (v := nI 2) (lv' := [(2, .int (nI 2)), (0, .ref a), (1, .ref (k 6))]) zx zb dX2_init_98 hl (k := 0) rfl (nI_inc _ 1) (by decide) rfl (fun ls hl => ?_)
      refine lv_goto (tgt := 76) zx zb dX2_init_101 (by decide) ?_
      refine lv_iload_n zx zb dX2_init_76 rfl (lv_at hl 0 rfl) ?_
      refine lv_bipush (v := nI 6) zx zb dX2_init_77 (by decide) ?_
      refine lv_icmp_ge (tgt := 104) zx zb dX2_init_79 (by decide) (fun c_79 => ?_) (fun c_79 => ?_)
      · exact absurd c_79 (by decide)
      · clear c_79
        refine lv_aload_n zx zb dX2_init_82 rfl (lv_at hl 1 rfl) ?_
        refine g_get (v := .ref q39_5) XX hP 0 0 rfl rfl rfl iwX2 7 (by decide) fl_X2_26 rfl dX2_init_83 ?_
        refine lv_iload_n zx zb dX2_init_86 rfl (lv_at hl 0 rfl) ?_
        refine g_new (fs := [.null, .int 0, .int 0, .int 0, .int 0, .int 0, .int 0, .int 0]) XX hP hD hS hA 9 rfl iwX9 tyX9_ok cl_X2_24 it_X9 in_X9 (by intro j hj; rcases (show j = 0 ∨ j = 1 ∨ j = 2 ∨ j = 3 ∨ j = 4 ∨ j = 5 ∨ j = 6 ∨ j = 7 by omega) with rfl | rfl | rfl | rfl | rfl | rfl | rfl | rfl <;> rfl) (by decide) (by decide) dX2_init_87 (fun q87_11 H hP hD hS => ?_)
        have hP : bP Γ [[(a, .inr (2, [.ref (k 6), .int 0, .int 0, .ref q7_1, .ref q15_2, .ref q23_3, .ref q31_4, .ref q39_5, .int 0, .ref q48_6, .ref q56_7, .ref q64_8, .int 0]))], bKd Γ k, bA Γ q7_1 8 (fun _ => 0), bA Γ q15_2 8 (fun _ => 0), bA Γ q23_3 8 (fun _ => 0), bA Γ q31_4 8 (fun _ => 0), [(q39_5, .inl (Γ.2 4, 6, .inr (.inr (.inr (.inr (va_up (va_up (fun _ => none) 0 (some q87_9)) 1 (some q87_10)))))))], bA Γ q48_6 6 (fun _ => 0), bA Γ q56_7 6 (fun _ => 0), bA Γ q64_8 6 (fun _ => 0), [(q87_9, .inr (9, [.ref (k 0), .int 0, .int 0, .int 0, .int 0, .int 0, .int 0, .int 0]))], [(q87_10, .inr (9, [.ref (k 0), .int 0, .int 0, .int 0, .int 0, .int 0, .int 0, .int 0]))], [(q87_11, .inr (9, [.null, .int 0, .int 0, .int 0, .int 0, .int 0, .int 0, .int 0]))]] H := hP
        have hD : bD AA [[(a, .inr (2, [.ref (k 6), .int 0, .int 0, .ref q7_1, .ref q15_2, .ref q23_3, .ref q31_4, .ref q39_5, .int 0, .ref q48_6, .ref q56_7, .ref q64_8, .int 0]))], bKd Γ k, bA Γ q7_1 8 (fun _ => 0), bA Γ q15_2 8 (fun _ => 0), bA Γ q23_3 8 (fun _ => 0), bA Γ q31_4 8 (fun _ => 0), [(q39_5, .inl (Γ.2 4, 6, .inr (.inr (.inr (.inr (va_up (va_up (fun _ => none) 0 (some q87_9)) 1 (some q87_10)))))))], bA Γ q48_6 6 (fun _ => 0), bA Γ q56_7 6 (fun _ => 0), bA Γ q64_8 6 (fun _ => 0), [(q87_9, .inr (9, [.ref (k 0), .int 0, .int 0, .int 0, .int 0, .int 0, .int 0, .int 0]))], [(q87_10, .inr (9, [.ref (k 0), .int 0, .int 0, .int 0, .int 0, .int 0, .int 0, .int 0]))], [(q87_11, .inr (9, [.null, .int 0, .int 0, .int 0, .int 0, .int 0, .int 0, .int 0]))]] := hD
        refine lv_dup zx zb dX2_init_90 rfl ?_
        refine lv_aload_n zx zb dX2_init_91 rfl (lv_at hl 2 rfl) ?_
        refine lv_iconst (v := nI 0) zx zb dX2_init_92 (by decide) ?_
        refine g_aald (i := 0) (v := k 0) XX hP 1 0 2 rfl rfl rfl (by decide) (by decide) rfl dX2_init_93 ?_
        refine call_Iv (As := [.ref (k 0)]) (rest := [.ref q87_11, .int (nI 2), .ref q39_5]) XX ci_X2_43 (c_X9_init Γ l q87_11 (k 0) ) hP hD hS hA [12] (by decide) rfl (fun _ => rfl) rfl hl.1 rfl ⟨⟨by decide, by decide⟩, by decide, by decide⟩ (Nat.le_of_ble_eq_true rfl) dX2_init_94 (fun u H locs hw hP hD hS => ?_)
        have hP : bP Γ [[(a, .inr (2, [.ref (k 6), .int 0, .int 0, .ref q7_1, .ref q15_2, .ref q23_3, .ref q31_4, .ref q39_5, .int 0, .ref q48_6, .ref q56_7, .ref q64_8, .int 0]))], bKd Γ k, bA Γ q7_1 8 (fun _ => 0), bA Γ q15_2 8 (fun _ => 0), bA Γ q23_3 8 (fun _ => 0), bA Γ q31_4 8 (fun _ => 0), [(q39_5, .inl (Γ.2 4, 6, .inr (.inr (.inr (.inr (va_up (va_up (fun _ => none) 0 (some q87_9)) 1 (some q87_10)))))))], bA Γ q48_6 6 (fun _ => 0), bA Γ q56_7 6 (fun _ => 0), bA Γ q64_8 6 (fun _ => 0), [(q87_9, .inr (9, [.ref (k 0), .int 0, .int 0, .int 0, .int 0, .int 0, .int 0, .int 0]))], [(q87_10, .inr (9, [.ref (k 0), .int 0, .int 0, .int 0, .int 0, .int 0, .int 0, .int 0]))], [(q87_11, .inr (9, [.ref (k 0), .int 0, .int 0, .int 0, .int 0, .int 0, .int 0, .int 0]))]] H := hP
        have hD : bD AA [[(a, .inr (2, [.ref (k 6), .int 0, .int 0, .ref q7_1, .ref q15_2, .ref q23_3, .ref q31_4, .ref q39_5, .int 0, .ref q48_6, .ref q56_7, .ref q64_8, .int 0]))], bKd Γ k, bA Γ q7_1 8 (fun _ => 0), bA Γ q15_2 8 (fun _ => 0), bA Γ q23_3 8 (fun _ => 0), bA Γ q31_4 8 (fun _ => 0), [(q39_5, .inl (Γ.2 4, 6, .inr (.inr (.inr (.inr (va_up (va_up (fun _ => none) 0 (some q87_9)) 1 (some q87_10)))))))], bA Γ q48_6 6 (fun _ => 0), bA Γ q56_7 6 (fun _ => 0), bA Γ q64_8 6 (fun _ => 0), [(q87_9, .inr (9, [.ref (k 0), .int 0, .int 0, .int 0, .int 0, .int 0, .int 0, .int 0]))], [(q87_10, .inr (9, [.ref (k 0), .int 0, .int 0, .int 0, .int 0, .int 0, .int 0, .int 0]))], [(q87_11, .inr (9, [.ref (k 0), .int 0, .int 0, .int 0, .int 0, .int 0, .int 0, .int 0]))]] := hD
        refine g_aastN (i := 2) (blk' := [(q39_5, .inl (Γ.2 4, 6, .inr (.inr (.inr (.inr (va_up (va_up (va_up (fun _ => none) 0 (some q87_9)) 1 (some q87_10)) 2 (some q87_11)))))))]) (bs' := [[(a, .inr (2, [.ref (k 6), .int 0, .int 0, .ref q7_1, .ref q15_2, .ref q23_3, .ref q31_4, .ref q39_5, .int 0, .ref q48_6, .ref q56_7, .ref q64_8, .int 0]))], bKd Γ k, bA Γ q7_1 8 (fun _ => 0), bA Γ q15_2 8 (fun _ => 0), bA Γ q23_3 8 (fun _ => 0), bA Γ q31_4 8 (fun _ => 0), [(q39_5, .inl (Γ.2 4, 6, .inr (.inr (.inr (.inr (va_up (va_up (va_up (fun _ => none) 0 (some q87_9)) 1 (some q87_10)) 2 (some q87_11)))))))], bA Γ q48_6 6 (fun _ => 0), bA Γ q56_7 6 (fun _ => 0), bA Γ q64_8 6 (fun _ => 0), [(q87_9, .inr (9, [.ref (k 0), .int 0, .int 0, .int 0, .int 0, .int 0, .int 0, .int 0]))], [(q87_10, .inr (9, [.ref (k 0), .int 0, .int 0, .int 0, .int 0, .int 0, .int 0, .int 0]))], [(q87_11, .inr (9, [.ref (k 0), .int 0, .int 0, .int 0, .int 0, .int 0, .int 0, .int 0]))]]) XX hP hD hS 6 0 4 12 0 rfl rfl rfl rfl rfl rfl (by decide) (by decide) rfl rfl dX2_init_97 (fun H locs hP hD hS => ?_)
        refine lv_iinc (v := nI 3) (lv' := [(2, .int (nI 3)), (0, .ref a), (1, .ref (k 6))]) zx zb dX2_init_98 hl (k := 0) rfl (nI_inc _ 1) (by decide) rfl (fun ls hl => ?_)
        refine lv_goto (tgt := 76) zx zb dX2_init_101 (by decide) ?_
        refine lv_iload_n zx zb dX2_init_76 rfl (lv_at hl 0 rfl) ?_
        refine lv_bipush (v := nI 6) zx zb dX2_init_77 (by decide) ?_
        refine lv_icmp_ge (tgt := 104) zx zb dX2_init_79 (by decide) (fun c_79 => ?_) (fun c_79 => ?_)
        · exact absurd c_79 (by decide)
        · clear c_79
          refine lv_aload_n zx zb dX2_init_82 rfl (lv_at hl 1 rfl) ?_
          refine g_get (v := .ref q39_5) XX hP 0 0 rfl rfl rfl iwX2 7 (by decide) fl_X2_26 rfl dX2_init_83 ?_
          refine lv_iload_n zx zb dX2_init_86 rfl (lv_at hl 0 rfl) ?_
          refine g_new (fs := [.null, .int 0, .int 0, .int 0, .int 0, .int 0, .int 0, .int 0]) XX hP hD hS hA 9 rfl iwX9 tyX9_ok cl_X2_24 it_X9 in_X9 (by intro j hj; rcases (show j = 0 ∨ j = 1 ∨ j = 2 ∨ j = 3 ∨ j = 4 ∨ j = 5 ∨ j = 6 ∨ j = 7 by omega) with rfl | rfl | rfl | rfl | rfl | rfl | rfl | rfl <;> rfl) (by decide) (by decide) dX2_init_87 (fun q87_12 H hP hD hS => ?_)
          have hP : bP Γ [[(a, .inr (2, [.ref (k 6), .int 0, .int 0, .ref q7_1, .ref q15_2, .ref q23_3, .ref q31_4, .ref q39_5, .int 0, .ref q48_6, .ref q56_7, .ref q64_8, .int 0]))], bKd Γ k, bA Γ q7_1 8 (fun _ => 0), bA Γ q15_2 8 (fun _ => 0), bA Γ q23_3 8 (fun _ => 0), bA Γ q31_4 8 (fun _ => 0), [(q39_5, .inl (Γ.2 4, 6, .inr (.inr (.inr (.inr (va_up (va_up (va_up (fun _ => none) 0 (some q87_9)) 1 (some q87_10)) 2 (some q87_11)))))))], bA Γ q48_6 6 (fun _ => 0), bA Γ q56_7 6 (fun _ => 0), bA Γ q64_8 6 (fun _ => 0), [(q87_9, .inr (9, [.ref (k 0), .int 0, .int 0, .int 0, .int 0, .int 0, .int 0, .int 0]))], [(q87_10, .inr (9, [.ref (k 0), .int 0, .int 0, .int 0, .int 0, .int 0, .int 0, .int 0]))], [(q87_11, .inr (9, [.ref (k 0), .int 0, .int 0, .int 0, .int 0, .int 0, .int 0, .int 0]))], [(q87_12, .inr (9, [.null, .int 0, .int 0, .int 0, .int 0, .int 0, .int 0, .int 0]))]] H := hP
          have hD : bD AA [[(a, .inr (2, [.ref (k 6), .int 0, .int 0, .ref q7_1, .ref q15_2, .ref q23_3, .ref q31_4, .ref q39_5, .int 0, .ref q48_6, .ref q56_7, .ref q64_8, .int 0]))], bKd Γ k, bA Γ q7_1 8 (fun _ => 0), bA Γ q15_2 8 (fun _ => 0), bA Γ q23_3 8 (fun _ => 0), bA Γ q31_4 8 (fun _ => 0), [(q39_5, .inl (Γ.2 4, 6, .inr (.inr (.inr (.inr (va_up (va_up (va_up (fun _ => none) 0 (some q87_9)) 1 (some q87_10)) 2 (some q87_11)))))))], bA Γ q48_6 6 (fun _ => 0), bA Γ q56_7 6 (fun _ => 0), bA Γ q64_8 6 (fun _ => 0), [(q87_9, .inr (9, [.ref (k 0), .int 0, .int 0, .int 0, .int 0, .int 0, .int 0, .int 0]))], [(q87_10, .inr (9, [.ref (k 0), .int 0, .int 0, .int 0, .int 0, .int 0, .int 0, .int 0]))], [(q87_11, .inr (9, [.ref (k 0), .int 0, .int 0, .int 0, .int 0, .int 0, .int 0, .int 0]))], [(q87_12, .inr (9, [.null, .int 0, .int 0, .int 0, .int 0, .int 0, .int 0, .int 0]))]] := hD
          refine lv_dup zx zb dX2_init_90 rfl ?_
          refine lv_aload_n zx zb dX2_init_91 rfl (lv_at hl 2 rfl) ?_
          refine lv_iconst (v := nI 0) zx zb dX2_init_92 (by decide) ?_
          refine g_aald (i := 0) (v := k 0) XX hP 1 0 2 rfl rfl rfl (by decide) (by decide) rfl dX2_init_93 ?_
          refine call_Iv (As := [.ref (k 0)]) (rest := [.ref q87_12, .int (nI 3), .ref q39_5]) XX ci_X2_43 (c_X9_init Γ l q87_12 (k 0) ) hP hD hS hA [13] (by decide) rfl (fun _ => rfl) rfl hl.1 rfl ⟨⟨by decide, by decide⟩, by decide, by decide⟩ (Nat.le_of_ble_eq_true rfl) dX2_init_94 (fun u H locs hw hP hD hS => ?_)
          have hP : bP Γ [[(a, .inr (2, [.ref (k 6), .int 0, .int 0, .ref q7_1, .ref q15_2, .ref q23_3, .ref q31_4, .ref q39_5, .int 0, .ref q48_6, .ref q56_7, .ref q64_8, .int 0]))], bKd Γ k, bA Γ q7_1 8 (fun _ => 0), bA Γ q15_2 8 (fun _ => 0), bA Γ q23_3 8 (fun _ => 0), bA Γ q31_4 8 (fun _ => 0), [(q39_5, .inl (Γ.2 4, 6, .inr (.inr (.inr (.inr (va_up (va_up (va_up (fun _ => none) 0 (some q87_9)) 1 (some q87_10)) 2 (some q87_11)))))))], bA Γ q48_6 6 (fun _ => 0), bA Γ q56_7 6 (fun _ => 0), bA Γ q64_8 6 (fun _ => 0), [(q87_9, .inr (9, [.ref (k 0), .int 0, .int 0, .int 0, .int 0, .int 0, .int 0, .int 0]))], [(q87_10, .inr (9, [.ref (k 0), .int 0, .int 0, .int 0, .int 0, .int 0, .int 0, .int 0]))], [(q87_11, .inr (9, [.ref (k 0), .int 0, .int 0, .int 0, .int 0, .int 0, .int 0, .int 0]))], [(q87_12, .inr (9, [.ref (k 0), .int 0, .int 0, .int 0, .int 0, .int 0, .int 0, .int 0]))]] H := hP
          have hD : bD AA [[(a, .inr (2, [.ref (k 6), .int 0, .int 0, .ref q7_1, .ref q15_2, .ref q23_3, .ref q31_4, .ref q39_5, .int 0, .ref q48_6, .ref q56_7, .ref q64_8, .int 0]))], bKd Γ k, bA Γ q7_1 8 (fun _ => 0), bA Γ q15_2 8 (fun _ => 0), bA Γ q23_3 8 (fun _ => 0), bA Γ q31_4 8 (fun _ => 0), [(q39_5, .inl (Γ.2 4, 6, .inr (.inr (.inr (.inr (va_up (va_up (va_up (fun _ => none) 0 (some q87_9)) 1 (some q87_10)) 2 (some q87_11)))))))], bA Γ q48_6 6 (fun _ => 0), bA Γ q56_7 6 (fun _ => 0), bA Γ q64_8 6 (fun _ => 0), [(q87_9, .inr (9, [.ref (k 0), .int 0, .int 0, .int 0, .int 0, .int 0, .int 0, .int 0]))], [(q87_10, .inr (9, [.ref (k 0), .int 0, .int 0, .int 0, .int 0, .int 0, .int 0, .int 0]))], [(q87_11, .inr (9, [.ref (k 0), .int 0, .int 0, .int 0, .int 0, .int 0, .int 0, .int 0]))], [(q87_12, .inr (9, [.ref (k 0), .int 0, .int 0, .int 0, .int 0, .int 0, .int 0, .int 0]))]] := hD
          refine g_aastN (i := 3) (blk' := [(q39_5, .inl (Γ.2 4, 6, .inr (.inr (.inr (.inr (va_up (va_up (va_up (va_up (fun _ => none) 0 (some q87_9)) 1 (some q87_10)) 2 (some q87_11)) 3 (some q87_12)))))))]) (bs' := [[(a, .inr (2, [.ref (k 6), .int 0, .int 0, .ref q7_1, .ref q15_2, .ref q23_3, .ref q31_4, .ref q39_5, .int 0, .ref q48_6, .ref q56_7, .ref q64_8, .int 0]))], bKd Γ k, bA Γ q7_1 8 (fun _ => 0), bA Γ q15_2 8 (fun _ => 0), bA Γ q23_3 8 (fun _ => 0), bA Γ q31_4 8 (fun _ => 0), [(q39_5, .inl (Γ.2 4, 6, .inr (.inr (.inr (.inr (va_up (va_up (va_up (va_up (fun _ => none) 0 (some q87_9)) 1 (some q87_10)) 2 (some q87_11)) 3 (some q87_12)))))))], bA Γ q48_6 6 (fun _ => 0), bA Γ q56_7 6 (fun _ => 0), bA Γ q64_8 6 (fun _ => 0), [(q87_9, .inr (9, [.ref (k 0), .int 0, .int 0, .int 0, .int 0, .int 0, .int 0, .int 0]))], [(q87_10, .inr (9, [.ref (k 0), .int 0, .int 0, .int 0, .int 0, .int 0, .int 0, .int 0]))], [(q87_11, .inr (9, [.ref (k 0), .int 0, .int 0, .int 0, .int 0, .int 0, .int 0, .int 0]))], [(q87_12, .inr (9, [.ref (k 0), .int 0, .int 0, .int 0, .int 0, .int 0, .int 0, .int 0]))]]) XX hP hD hS 6 0 4 13 0 rfl rfl rfl rfl rfl rfl (by decide) (by decide) rfl rfl dX2_init_97 (fun H locs hP hD hS => ?_)
          refine lv_iinc (v := nI 4) (lv' := [(2, .int (nI 4)), (0, .ref a), (1, .ref (k 6))]) zx zb dX2_init_98 hl (k := 0) rfl (nI_inc _ 1) (by decide) rfl (fun ls hl => ?_)
          refine lv_goto (tgt := 76) zx zb dX2_init_101 (by decide) ?_
          refine lv_iload_n zx zb dX2_init_76 rfl (lv_at hl 0 rfl) ?_
          refine lv_bipush (v := nI 6) zx zb dX2_init_77 (by decide) ?_
          refine lv_icmp_ge (tgt := 104) zx zb dX2_init_79 (by decide) (fun c_79 => ?_) (fun c_79 => ?_)
          · exact absurd c_79 (by decide)
          · clear c_79
            refine lv_aload_n zx zb dX2_init_82 rfl (lv_at hl 1 rfl) ?_
            refine g_get (v := .ref q39_5) XX hP 0 0 rfl rfl rfl iwX2 7 (by decide) fl_X2_26 rfl dX2_init_83 ?_
            refine lv_iload_n zx zb dX2_init_86 rfl (lv_at hl 0 rfl) ?_
            refine g_new (fs := [.null, .int 0, .int 0, .int 0, .int 0, .int 0, .int 0, .int 0]) XX hP hD hS hA 9 rfl iwX9 tyX9_ok cl_X2_24 it_X9 in_X9 (by intro j hj; rcases (show j = 0 ∨ j = 1 ∨ j = 2 ∨ j = 3 ∨ j = 4 ∨ j = 5 ∨ j = 6 ∨ j = 7 by omega) with rfl | rfl | rfl | rfl | rfl | rfl | rfl | rfl <;> rfl) (by decide) (by decide) dX2_init_87 (fun q87_13 H hP hD hS => ?_)
            have hP : bP Γ [[(a, .inr (2, [.ref (k 6), .int 0, .int 0, .ref q7_1, .ref q15_2, .ref q23_3, .ref q31_4, .ref q39_5, .int 0, .ref q48_6, .ref q56_7, .ref q64_8, .int 0]))], bKd Γ k, bA Γ q7_1 8 (fun _ => 0), bA Γ q15_2 8 (fun _ => 0), bA Γ q23_3 8 (fun _ => 0), bA Γ q31_4 8 (fun _ => 0), [(q39_5, .inl (Γ.2 4, 6, .inr (.inr (.inr (.inr (va_up (va_up (va_up (va_up (fun _ => none) 0 (some q87_9)) 1 (some q87_10)) 2 (some q87_11)) 3 (some q87_12)))))))], bA Γ q48_6 6 (fun _ => 0), bA Γ q56_7 6 (fun _ => 0), bA Γ q64_8 6 (fun _ => 0), [(q87_9, .inr (9, [.ref (k 0), .int 0, .int 0, .int 0, .int 0, .int 0, .int 0, .int 0]))], [(q87_10, .inr (9, [.ref (k 0), .int 0, .int 0, .int 0, .int 0, .int 0, .int 0, .int 0]))], [(q87_11, .inr (9, [.ref (k 0), .int 0, .int 0, .int 0, .int 0, .int 0, .int 0, .int 0]))], [(q87_12, .inr (9, [.ref (k 0), .int 0, .int 0, .int 0, .int 0, .int 0, .int 0, .int 0]))], [(q87_13, .inr (9, [.null, .int 0, .int 0, .int 0, .int 0, .int 0, .int 0, .int 0]))]] H := hP
            have hD : bD AA [[(a, .inr (2, [.ref (k 6), .int 0, .int 0, .ref q7_1, .ref q15_2, .ref q23_3, .ref q31_4, .ref q39_5, .int 0, .ref q48_6, .ref q56_7, .ref q64_8, .int 0]))], bKd Γ k, bA Γ q7_1 8 (fun _ => 0), bA Γ q15_2 8 (fun _ => 0), bA Γ q23_3 8 (fun _ => 0), bA Γ q31_4 8 (fun _ => 0), [(q39_5, .inl (Γ.2 4, 6, .inr (.inr (.inr (.inr (va_up (va_up (va_up (va_up (fun _ => none) 0 (some q87_9)) 1 (some q87_10)) 2 (some q87_11)) 3 (some q87_12)))))))], bA Γ q48_6 6 (fun _ => 0), bA Γ q56_7 6 (fun _ => 0), bA Γ q64_8 6 (fun _ => 0), [(q87_9, .inr (9, [.ref (k 0), .int 0, .int 0, .int 0, .int 0, .int 0, .int 0, .int 0]))], [(q87_10, .inr (9, [.ref (k 0), .int 0, .int 0, .int 0, .int 0, .int 0, .int 0, .int 0]))], [(q87_11, .inr (9, [.ref (k 0), .int 0, .int 0, .int 0, .int 0, .int 0, .int 0, .int 0]))], [(q87_12, .inr (9, [.ref (k 0), .int 0, .int 0, .int 0, .int 0, .int 0, .int 0, .int 0]))], [(q87_13, .inr (9, [.null, .int 0, .int 0, .int 0, .int 0, .int 0, .int 0, .int 0]))]] := hD
            refine lv_dup zx zb dX2_init_90 rfl ?_
            refine lv_aload_n zx zb dX2_init_91 rfl (lv_at hl 2 rfl) ?_
            refine lv_iconst (v := nI 0) zx zb dX2_init_92 (by decide) ?_
            refine g_aald (i := 0) (v := k 0) XX hP 1 0 2 rfl rfl rfl (by decide) (by decide) rfl dX2_init_93 ?_
            refine call_Iv (As := [.ref (k 0)]) (rest := [.ref q87_13, .int (nI 4), .ref q39_5]) XX ci_X2_43 (c_X9_init Γ l q87_13 (k 0) ) hP hD hS hA [14] (by decide) rfl (fun _ => rfl) rfl hl.1 rfl ⟨⟨by decide, by decide⟩, by decide, by decide⟩ (Nat.le_of_ble_eq_true rfl) dX2_init_94 (fun u H locs hw hP hD hS => ?_)
            have hP : bP Γ [[(a, .inr (2, [.ref (k 6), .int 0, .int 0, .ref q7_1, .ref q15_2, .ref q23_3, .ref q31_4, .ref q39_5, .int 0, .ref q48_6, .ref q56_7, .ref q64_8, .int 0]))], bKd Γ k, bA Γ q7_1 8 (fun _ => 0), bA Γ q15_2 8 (fun _ => 0), bA Γ q23_3 8 (fun _ => 0), bA Γ q31_4 8 (fun _ => 0), [(q39_5, .inl (Γ.2 4, 6, .inr (.inr (.inr (.inr (va_up (va_up (va_up (va_up (fun _ => none) 0 (some q87_9)) 1 (some q87_10)) 2 (some q87_11)) 3 (some q87_12)))))))], bA Γ q48_6 6 (fun _ => 0), bA Γ q56_7 6 (fun _ => 0), bA Γ q64_8 6 (fun _ => 0), [(q87_9, .inr (9, [.ref (k 0), .int 0, .int 0, .int 0, .int 0, .int 0, .int 0, .int 0]))], [(q87_10, .inr (9, [.ref (k 0), .int 0, .int 0, .int 0, .int 0, .int 0, .int 0, .int 0]))], [(q87_11, .inr (9, [.ref (k 0), .int 0, .int 0, .int 0, .int 0, .int 0, .int 0, .int 0]))], [(q87_12, .inr (9, [.ref (k 0), .int 0, .int 0, .int 0, .int 0, .int 0, .int 0, .int 0]))], [(q87_13, .inr (9, [.ref (k 0), .int 0, .int 0, .int 0, .int 0, .int 0, .int 0, .int 0]))]] H := hP
            have hD : bD AA [[(a, .inr (2, [.ref (k 6), .int 0, .int 0, .ref q7_1, .ref q15_2, .ref q23_3, .ref q31_4, .ref q39_5, .int 0, .ref q48_6, .ref q56_7, .ref q64_8, .int 0]))], bKd Γ k, bA Γ q7_1 8 (fun _ => 0), bA Γ q15_2 8 (fun _ => 0), bA Γ q23_3 8 (fun _ => 0), bA Γ q31_4 8 (fun _ => 0), [(q39_5, .inl (Γ.2 4, 6, .inr (.inr (.inr (.inr (va_up (va_up (va_up (va_up (fun _ => none) 0 (some q87_9)) 1 (some q87_10)) 2 (some q87_11)) 3 (some q87_12)))))))], bA Γ q48_6 6 (fun _ => 0), bA Γ q56_7 6 (fun _ => 0), bA Γ q64_8 6 (fun _ => 0), [(q87_9, .inr (9, [.ref (k 0), .int 0, .int 0, .int 0, .int 0, .int 0, .int 0, .int 0]))], [(q87_10, .inr (9, [.ref (k 0), .int 0, .int 0, .int 0, .int 0, .int 0, .int 0, .int 0]))], [(q87_11, .inr (9, [.ref (k 0), .int 0, .int 0, .int 0, .int 0, .int 0, .int 0, .int 0]))], [(q87_12, .inr (9, [.ref (k 0), .int 0, .int 0, .int 0, .int 0, .int 0, .int 0, .int 0]))], [(q87_13, .inr (9, [.ref (k 0), .int 0, .int 0, .int 0, .int 0, .int 0, .int 0, .int 0]))]] := hD
            refine g_aastN (i := 4) (blk' := [(q39_5, .inl (Γ.2 4, 6, .inr (.inr (.inr (.inr (va_up (va_up (va_up (va_up (va_up (fun _ => none) 0 (some q87_9)) 1 (some q87_10)) 2 (some q87_11)) 3 (some q87_12)) 4 (some q87_13)))))))]) (bs' := [[(a, .inr (2, [.ref (k 6), .int 0, .int 0, .ref q7_1, .ref q15_2, .ref q23_3, .ref q31_4, .ref q39_5, .int 0, .ref q48_6, .ref q56_7, .ref q64_8, .int 0]))], bKd Γ k, bA Γ q7_1 8 (fun _ => 0), bA Γ q15_2 8 (fun _ => 0), bA Γ q23_3 8 (fun _ => 0), bA Γ q31_4 8 (fun _ => 0), [(q39_5, .inl (Γ.2 4, 6, .inr (.inr (.inr (.inr (va_up (va_up (va_up (va_up (va_up (fun _ => none) 0 (some q87_9)) 1 (some q87_10)) 2 (some q87_11)) 3 (some q87_12)) 4 (some q87_13)))))))], bA Γ q48_6 6 (fun _ => 0), bA Γ q56_7 6 (fun _ => 0), bA Γ q64_8 6 (fun _ => 0), [(q87_9, .inr (9, [.ref (k 0), .int 0, .int 0, .int 0, .int 0, .int 0, .int 0, .int 0]))], [(q87_10, .inr (9, [.ref (k 0), .int 0, .int 0, .int 0, .int 0, .int 0, .int 0, .int 0]))], [(q87_11, .inr (9, [.ref (k 0), .int 0, .int 0, .int 0, .int 0, .int 0, .int 0, .int 0]))], [(q87_12, .inr (9, [.ref (k 0), .int 0, .int 0, .int 0, .int 0, .int 0, .int 0, .int 0]))], [(q87_13, .inr (9, [.ref (k 0), .int 0, .int 0, .int 0, .int 0, .int 0, .int 0, .int 0]))]]) XX hP hD hS 6 0 4 14 0 rfl rfl rfl rfl rfl rfl (by decide) (by decide) rfl rfl dX2_init_97 (fun H locs hP hD hS => ?_)
            refine lv_iinc (v := nI 5) (lv' := [(2, .int (nI 5)), (0, .ref a), (1, .ref (k 6))]) zx zb dX2_init_98 hl (k := 0) rfl (nI_inc _ 1) (by decide) rfl (fun ls hl => ?_)
            refine lv_goto (tgt := 76) zx zb dX2_init_101 (by decide) ?_
            refine lv_iload_n zx zb dX2_init_76 rfl (lv_at hl 0 rfl) ?_
            refine lv_bipush (v := nI 6) zx zb dX2_init_77 (by decide) ?_
            refine lv_icmp_ge (tgt := 104) zx zb dX2_init_79 (by decide) (fun c_79 => ?_) (fun c_79 => ?_)
            · exact absurd c_79 (by decide)
            · clear c_79
              refine lv_aload_n zx zb dX2_init_82 rfl (lv_at hl 1 rfl) ?_
              refine g_get (v := .ref q39_5) XX hP 0 0 rfl rfl rfl iwX2 7 (by decide) fl_X2_26 rfl dX2_init_83 ?_
              refine lv_iload_n zx zb dX2_init_86 rfl (lv_at hl 0 rfl) ?_
              refine g_new (fs := [.null, .int 0, .int 0, .int 0, .int 0, .int 0, .int 0, .int 0]) XX hP hD hS hA 9 rfl iwX9 tyX9_ok cl_X2_24 it_X9 in_X9 (by intro j hj; rcases (show j = 0 ∨ j = 1 ∨ j = 2 ∨ j = 3 ∨ j = 4 ∨ j = 5 ∨ j = 6 ∨ j = 7 by omega) with rfl | rfl | rfl | rfl | rfl | rfl | rfl | rfl <;> rfl) (by decide) (by decide) dX2_init_87 (fun q87_14 H hP hD hS => ?_)
              have hP : bP Γ [[(a, .inr (2, [.ref (k 6), .int 0, .int 0, .ref q7_1, .ref q15_2, .ref q23_3, .ref q31_4, .ref q39_5, .int 0, .ref q48_6, .ref q56_7, .ref q64_8, .int 0]))], bKd Γ k, bA Γ q7_1 8 (fun _ => 0), bA Γ q15_2 8 (fun _ => 0), bA Γ q23_3 8 (fun _ => 0), bA Γ q31_4 8 (fun _ => 0), [(q39_5, .inl (Γ.2 4, 6, .inr (.inr (.inr (.inr (va_up (va_up (va_up (va_up (va_up (fun _ => none) 0 (some q87_9)) 1 (some q87_10)) 2 (some q87_11)) 3 (some q87_12)) 4 (some q87_13)))))))], bA Γ q48_6 6 (fun _ => 0), bA Γ q56_7 6 (fun _ => 0), bA Γ q64_8 6 (fun _ => 0), [(q87_9, .inr (9, [.ref (k 0), .int 0, .int 0, .int 0, .int 0, .int 0, .int 0, .int 0]))], [(q87_10, .inr (9, [.ref (k 0), .int 0, .int 0, .int 0, .int 0, .int 0, .int 0, .int 0]))], [(q87_11, .inr (9, [.ref (k 0), .int 0, .int 0, .int 0, .int 0, .int 0, .int 0, .int 0]))], [(q87_12, .inr (9, [.ref (k 0), .int 0, .int 0, .int 0, .int 0, .int 0, .int 0, .int 0]))], [(q87_13, .inr (9, [.ref (k 0), .int 0, .int 0, .int 0, .int 0, .int 0, .int 0, .int 0]))], [(q87_14, .inr (9, [.null, .int 0, .int 0, .int 0, .int 0, .int 0, .int 0, .int 0]))]] H := hP
              have hD : bD AA [[(a, .inr (2, [.ref (k 6), .int 0, .int 0, .ref q7_1, .ref q15_2, .ref q23_3, .ref q31_4, .ref q39_5, .int 0, .ref q48_6, .ref q56_7, .ref q64_8, .int 0]))], bKd Γ k, bA Γ q7_1 8 (fun _ => 0), bA Γ q15_2 8 (fun _ => 0), bA Γ q23_3 8 (fun _ => 0), bA Γ q31_4 8 (fun _ => 0), [(q39_5, .inl (Γ.2 4, 6, .inr (.inr (.inr (.inr (va_up (va_up (va_up (va_up (va_up (fun _ => none) 0 (some q87_9)) 1 (some q87_10)) 2 (some q87_11)) 3 (some q87_12)) 4 (some q87_13)))))))], bA Γ q48_6 6 (fun _ => 0), bA Γ q56_7 6 (fun _ => 0), bA Γ q64_8 6 (fun _ => 0), [(q87_9, .inr (9, [.ref (k 0), .int 0, .int 0, .int 0, .int 0, .int 0, .int 0, .int 0]))], [(q87_10, .inr (9, [.ref (k 0), .int 0, .int 0, .int 0, .int 0, .int 0, .int 0, .int 0]))], [(q87_11, .inr (9, [.ref (k 0), .int 0, .int 0, .int 0, .int 0, .int 0, .int 0, .int 0]))], [(q87_12, .inr (9, [.ref (k 0), .int 0, .int 0, .int 0, .int 0, .int 0, .int 0, .int 0]))], [(q87_13, .inr (9, [.ref (k 0), .int 0, .int 0, .int 0, .int 0, .int 0, .int 0, .int 0]))], [(q87_14, .inr (9, [.null, .int 0, .int 0, .int 0, .int 0, .int 0, .int 0, .int 0]))]] := hD
              refine lv_dup zx zb dX2_init_90 rfl ?_
              refine lv_aload_n zx zb dX2_init_91 rfl (lv_at hl 2 rfl) ?_
              refine lv_iconst (v := nI 0) zx zb dX2_init_92 (by decide) ?_
              refine g_aald (i := 0) (v := k 0) XX hP 1 0 2 rfl rfl rfl (by decide) (by decide) rfl dX2_init_93 ?_
              refine call_Iv (As := [.ref (k 0)]) (rest := [.ref q87_14, .int (nI 5), .ref q39_5]) XX ci_X2_43 (c_X9_init Γ l q87_14 (k 0) ) hP hD hS hA [15] (by decide) rfl (fun _ => rfl) rfl hl.1 rfl ⟨⟨by decide, by decide⟩, by decide, by decide⟩ (Nat.le_of_ble_eq_true rfl) dX2_init_94 (fun u H locs hw hP hD hS => ?_)
              have hP : bP Γ [[(a, .inr (2, [.ref (k 6), .int 0, .int 0, .ref q7_1, .ref q15_2, .ref q23_3, .ref q31_4, .ref q39_5, .int 0, .ref q48_6, .ref q56_7, .ref q64_8, .int 0]))], bKd Γ k, bA Γ q7_1 8 (fun _ => 0), bA Γ q15_2 8 (fun _ => 0), bA Γ q23_3 8 (fun _ => 0), bA Γ q31_4 8 (fun _ => 0), [(q39_5, .inl (Γ.2 4, 6, .inr (.inr (.inr (.inr (va_up (va_up (va_up (va_up (va_up (fun _ => none) 0 (some q87_9)) 1 (some q87_10)) 2 (some q87_11)) 3 (some q87_12)) 4 (some q87_13)))))))], bA Γ q48_6 6 (fun _ => 0), bA Γ q56_7 6 (fun _ => 0), bA Γ q64_8 6 (fun _ => 0), [(q87_9, .inr (9, [.ref (k 0), .int 0, .int 0, .int 0, .int 0, .int 0, .int 0, .int 0]))], [(q87_10, .inr (9, [.ref (k 0), .int 0, .int 0, .int 0, .int 0, .int 0, .int 0, .int 0]))], [(q87_11, .inr (9, [.ref (k 0), .int 0, .int 0, .int 0, .int 0, .int 0, .int 0, .int 0]))], [(q87_12, .inr (9, [.ref (k 0), .int 0, .int 0, .int 0, .int 0, .int 0, .int 0, .int 0]))], [(q87_13, .inr (9, [.ref (k 0), .int 0, .int 0, .int 0, .int 0, .int 0, .int 0, .int 0]))], [(q87_14, .inr (9, [.ref (k 0), .int 0, .int 0, .int 0, .int 0, .int 0, .int 0, .int 0]))]] H := hP
              have hD : bD AA [[(a, .inr (2, [.ref (k 6), .int 0, .int 0, .ref q7_1, .ref q15_2, .ref q23_3, .ref q31_4, .ref q39_5, .int 0, .ref q48_6, .ref q56_7, .ref q64_8, .int 0]))], bKd Γ k, bA Γ q7_1 8 (fun _ => 0), bA Γ q15_2 8 (fun _ => 0), bA Γ q23_3 8 (fun _ => 0), bA Γ q31_4 8 (fun _ => 0), [(q39_5, .inl (Γ.2 4, 6, .inr (.inr (.inr (.inr (va_up (va_up (va_up (va_up (va_up (fun _ => none) 0 (some q87_9)) 1 (some q87_10)) 2 (some q87_11)) 3 (some q87_12)) 4 (some q87_13)))))))], bA Γ q48_6 6 (fun _ => 0), bA Γ q56_7 6 (fun _ => 0), bA Γ q64_8 6 (fun _ => 0), [(q87_9, .inr (9, [.ref (k 0), .int 0, .int 0, .int 0, .int 0, .int 0, .int 0, .int 0]))], [(q87_10, .inr (9, [.ref (k 0), .int 0, .int 0, .int 0, .int 0, .int 0, .int 0, .int 0]))], [(q87_11, .inr (9, [.ref (k 0), .int 0, .int 0, .int 0, .int 0, .int 0, .int 0, .int 0]))], [(q87_12, .inr (9, [.ref (k 0), .int 0, .int 0, .int 0, .int 0, .int 0, .int 0, .int 0]))], [(q87_13, .inr (9, [.ref (k 0), .int 0, .int 0, .int 0, .int 0, .int 0, .int 0, .int 0]))], [(q87_14, .inr (9, [.ref (k 0), .int 0, .int 0, .int 0, .int 0, .int 0, .int 0, .int 0]))]] := hD
              refine g_aastN (i := 5) (blk' := [(q39_5, .inl (Γ.2 4, 6, .inr (.inr (.inr (.inr (va_up (va_up (va_up (va_up (va_up (va_up (fun _ => none) 0 (some q87_9)) 1 (some q87_10)) 2 (some q87_11)) 3 (some q87_12)) 4 (some q87_13)) 5 (some q87_14)))))))]) (bs' := [[(a, .inr (2, [.ref (k 6), .int 0, .int 0, .ref q7_1, .ref q15_2, .ref q23_3, .ref q31_4, .ref q39_5, .int 0, .ref q48_6, .ref q56_7, .ref q64_8, .int 0]))], bKd Γ k, bA Γ q7_1 8 (fun _ => 0), bA Γ q15_2 8 (fun _ => 0), bA Γ q23_3 8 (fun _ => 0), bA Γ q31_4 8 (fun _ => 0), [(q39_5, .inl (Γ.2 4, 6, .inr (.inr (.inr (.inr (va_up (va_up (va_up (va_up (va_up (va_up (fun _ => none) 0 (some q87_9)) 1 (some q87_10)) 2 (some q87_11)) 3 (some q87_12)) 4 (some q87_13)) 5 (some q87_14)))))))], bA Γ q48_6 6 (fun _ => 0), bA Γ q56_7 6 (fun _ => 0), bA Γ q64_8 6 (fun _ => 0), [(q87_9, .inr (9, [.ref (k 0), .int 0, .int 0, .int 0, .int 0, .int 0, .int 0, .int 0]))], [(q87_10, .inr (9, [.ref (k 0), .int 0, .int 0, .int 0, .int 0, .int 0, .int 0, .int 0]))], [(q87_11, .inr (9, [.ref (k 0), .int 0, .int 0, .int 0, .int 0, .int 0, .int 0, .int 0]))], [(q87_12, .inr (9, [.ref (k 0), .int 0, .int 0, .int 0, .int 0, .int 0, .int 0, .int 0]))], [(q87_13, .inr (9, [.ref (k 0), .int 0, .int 0, .int 0, .int 0, .int 0, .int 0, .int 0]))], [(q87_14, .inr (9, [.ref (k 0), .int 0, .int 0, .int 0, .int 0, .int 0, .int 0, .int 0]))]]) XX hP hD hS 6 0 4 15 0 rfl rfl rfl rfl rfl rfl (by decide) (by decide) rfl rfl dX2_init_97 (fun H locs hP hD hS => ?_)
              refine lv_iinc (v := nI 6) (lv' := [(2, .int (nI 6)), (0, .ref a), (1, .ref (k 6))]) zx zb dX2_init_98 hl (k := 0) rfl (nI_inc _ 1) (by decide) rfl (fun ls hl => ?_)
              refine lv_goto (tgt := 76) zx zb dX2_init_101 (by decide) ?_
              refine lv_iload_n zx zb dX2_init_76 rfl (lv_at hl 0 rfl) ?_
              refine lv_bipush (v := nI 6) zx zb dX2_init_77 (by decide) ?_
              refine lv_icmp_ge (tgt := 104) zx zb dX2_init_79 (by decide) (fun c_79 => ?_) (fun c_79 => ?_)
              · clear c_79
                have hP := bl_congrQ hP 6 0 rfl (fun j => some ((adr [a, q7_1, q15_2, q23_3, q31_4, q39_5, q87_9, q87_10, q87_11, q87_12, q87_13, q87_14, q48_6, q56_7, q64_8]) (6 + j))) rfl (six rfl rfl rfl rfl rfl rfl) rfl rfl
                have hD := bl_congrD (e := .inl (Γ.2 4, 6, .inr (.inr (.inr (.inr (fun j => some ((adr [a, q7_1, q15_2, q23_3, q31_4, q39_5, q87_9, q87_10, q87_11, q87_12, q87_13, q87_14, q48_6, q56_7, q64_8]) (6 + j)))))))) hD 6 0 rfl rfl rfl rfl
                exact fin _ _ (adr [a, q7_1, q15_2, q23_3, q31_4, q39_5, q87_9, q87_10, q87_11, q87_12, q87_13, q87_14, q48_6, q56_7, q64_8]) 104 _ dX2_init_104 rfl (va_P.sub hP [0, 8, 9, 10, 11, 12, 13, 14, 15, 16, 17, 18, 19, 20, 21, 1, 2, 3, 4, 5, 6, 7] rfl) (va_D.sub hD [0, 8, 9, 10, 11, 12, 13, 14, 15, 16, 17, 18, 19, 20, 21, 1, 2, 3, 4, 5, 6, 7] (by decide) rfl) hS
              · exact absurd c_79 (by decide)
