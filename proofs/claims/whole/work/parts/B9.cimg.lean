
set_option maxHeartbeats 4000000 in
set_option maxRecDepth 100000 in
theorem c_X11_image_bad (Γ : GG) (l : Launch) (t : Nat → Nat) (s : Nat → Nat) (x : Nat → Nat) (V : V3) (a : Int32) (hwa : wi a 0 1 = false) : Ci Γ l yX11_image cX11_image 2 (some (.int)) 1 22 0 0 [.ref (t 0), .int a] [bTT Γ t s x V] (fun (r : Int32) (u : V3) => r = (-2) ∧ u = ttRef V (-2)) (fun (u : V3) => [bTT Γ t s x u]) := by
  refine Ci.of (Or.inl rfl) (by decide) (Nat.le_of_ble_eq_true rfl) ?_
  intro pp ee ss mm bb me cd AA QQ XX hnm hA hP hD fin ls hl
  obtain ⟨zx, zb, hml, hown, hts, hK⟩ := id XX
  have hS : va_S AA ss.heap ss.heap [] := va_S.rf
  have hl : lv_has ls 2 [(0, .ref (t 0)), (1, .int a)] := hl
  refine lv_iload_n zx zb dX11_image_0 rfl (lv_at hl 1 rfl) ?_
  refine lv_iconst (v := nI 0) zx zb dX11_image_1 (by decide) ?_
  refine lv_iconst (v := nI 1) zx zb dX11_image_2 (by decide) ?_
  refine callR_Si (As := [.int a, .int (nI 0), .int (nI 1)]) (rest := []) XX cs_X11_75 (c_X11_within Γ l a 0 1 ) hP hD hS hA nil_mem nil_D rfl hl.1 rfl ⟨⟨by decide, by decide⟩, by decide, by decide⟩ (Nat.le_of_ble_eq_true rfl) dX11_image_3 (fun r_3 H locs hw hP hS => ?_)
  have hw := hw.symm
  subst hw
  refine lv_if_ne (tgt := 18) zx zb dX11_image_6 (by decide) (fun c_6 => ?_) (fun c_6 => ?_)
  · have c_6 : (wi a 0 1) = true := bI_ne c_6
    exact absurd (hwa.symm.trans c_6) (by decide)
  · clear c_6
    refine lv_aload_n zx zb dX11_image_9 rfl (lv_at hl 0 rfl) ?_
    refine lv_bipush (v := (-2)) zx zb dX11_image_10 (by decide) ?_
    refine lv_bipush (v := (-2)) zx zb dX11_image_12 (by decide) ?_
    refine call_Vi (As := [.int (-2), .int (-2)]) (rest := []) XX cv_X11_79 (c_X11_refused Γ l t s x V (-2) (-2) ) hP hD hS hA [0] (by decide) rfl (fun _ => rfl) 0 0 rfl rfl rfl rfl hl.1 rfl ⟨⟨by decide, by decide⟩, by decide, by decide⟩ (Nat.le_of_ble_eq_true rfl) dX11_image_14 (fun r_14 u H locs hw hP hD hS => ?_)
    obtain ⟨hw1, hw2⟩ := hw
    have hw1 := hw1.symm
    have hw2 := hw2.symm
    subst hw1
    subst hw2
    have hP : bP Γ [bTT Γ t s x (ttRef V (-2))] H := hP
    have hD : bD AA [bTT Γ t s x (ttRef V (-2))] := hD
    exact fin _ _ (-2) (ttRef V (-2)) 17 _ dX11_image_17 (fun h => by cases h) ⟨(rfl), (rfl)⟩ hP hD hS

set_option maxHeartbeats 4000000 in
set_option maxRecDepth 100000 in
theorem c_X11_from_bad (Γ : GG) (l : Launch) (t : Nat → Nat) (s : Nat → Nat) (x : Nat → Nat) (V : V3) (a : Int32) (hwa : wi a 0 1 = false) : Ci Γ l yX11_from cX11_from 2 (some (.int)) 1 22 0 0 [.ref (t 0), .int a] [bTT Γ t s x V] (fun (r : Int32) (u : V3) => r = (-2) ∧ u = ttRef V (-2)) (fun (u : V3) => [bTT Γ t s x u]) := by
  refine Ci.of (Or.inl rfl) (by decide) (Nat.le_of_ble_eq_true rfl) ?_
  intro pp ee ss mm bb me cd AA QQ XX hnm hA hP hD fin ls hl
  obtain ⟨zx, zb, hml, hown, hts, hK⟩ := id XX
  have hS : va_S AA ss.heap ss.heap [] := va_S.rf
  have hl : lv_has ls 2 [(0, .ref (t 0)), (1, .int a)] := hl
  refine lv_iload_n zx zb dX11_from_0 rfl (lv_at hl 1 rfl) ?_
  refine lv_iconst (v := nI 0) zx zb dX11_from_1 (by decide) ?_
  refine lv_iconst (v := nI 1) zx zb dX11_from_2 (by decide) ?_
  refine callR_Si (As := [.int a, .int (nI 0), .int (nI 1)]) (rest := []) XX cs_X11_75 (c_X11_within Γ l a 0 1 ) hP hD hS hA nil_mem nil_D rfl hl.1 rfl ⟨⟨by decide, by decide⟩, by decide, by decide⟩ (Nat.le_of_ble_eq_true rfl) dX11_from_3 (fun r_3 H locs hw hP hS => ?_)
  have hw := hw.symm
  subst hw
  refine lv_if_ne (tgt := 18) zx zb dX11_from_6 (by decide) (fun c_6 => ?_) (fun c_6 => ?_)
  · have c_6 : (wi a 0 1) = true := bI_ne c_6
    exact absurd (hwa.symm.trans c_6) (by decide)
  · clear c_6
    refine lv_aload_n zx zb dX11_from_9 rfl (lv_at hl 0 rfl) ?_
    refine lv_bipush (v := (-2)) zx zb dX11_from_10 (by decide) ?_
    refine lv_bipush (v := (-2)) zx zb dX11_from_12 (by decide) ?_
    refine call_Vi (As := [.int (-2), .int (-2)]) (rest := []) XX cv_X11_79 (c_X11_refused Γ l t s x V (-2) (-2) ) hP hD hS hA [0] (by decide) rfl (fun _ => rfl) 0 0 rfl rfl rfl rfl hl.1 rfl ⟨⟨by decide, by decide⟩, by decide, by decide⟩ (Nat.le_of_ble_eq_true rfl) dX11_from_14 (fun r_14 u H locs hw hP hD hS => ?_)
    obtain ⟨hw1, hw2⟩ := hw
    have hw1 := hw1.symm
    have hw2 := hw2.symm
    subst hw1
    subst hw2
    have hP : bP Γ [bTT Γ t s x (ttRef V (-2))] H := hP
    have hD : bD AA [bTT Γ t s x (ttRef V (-2))] := hD
    exact fin _ _ (-2) (ttRef V (-2)) 17 _ dX11_from_17 (fun h => by cases h) ⟨(rfl), (rfl)⟩ hP hD hS

set_option maxHeartbeats 4000000 in
set_option maxRecDepth 100000 in
theorem c_X11_from_no_0 (Γ : GG) (l : Launch) (t : Nat → Nat) (s : Nat → Nat) (x : Nat → Nat) (V : V3) (f : Nat → Option Nat) (hf : f 0 = none) : Ci Γ l yX11_from cX11_from 2 (some (.int)) 1 22 0 0 [.ref (t 0), .int (nI 0)] [bTT Γ t s x V, [(t 1, .inl (Γ.2 3, 2, .inr (.inr (.inr (.inr f)))))]] (fun (r : Int32) (u : V3) => r = (-3) ∧ u = ttRef V (-3)) (fun (u : V3) => [bTT Γ t s x u, [(t 1, .inl (Γ.2 3, 2, .inr (.inr (.inr (.inr f)))))]]) := by
  refine Ci.of (Or.inl rfl) (by decide) (Nat.le_of_ble_eq_true rfl) ?_
  intro pp ee ss mm bb me cd AA QQ XX hnm hA hP hD fin ls hl
  obtain ⟨zx, zb, hml, hown, hts, hK⟩ := id XX
  have hS : va_S AA ss.heap ss.heap [] := va_S.rf
  have hl : lv_has ls 2 [(0, .ref (t 0)), (1, .int (nI 0))] := hl
  refine lv_iload_n zx zb dX11_from_0 rfl (lv_at hl 1 rfl) ?_
  refine lv_iconst (v := nI 0) zx zb dX11_from_1 (by decide) ?_
  refine lv_iconst (v := nI 1) zx zb dX11_from_2 (by decide) ?_
  refine callR_Si (As := [.int (nI 0), .int (nI 0), .int (nI 1)]) (rest := []) XX cs_X11_75 (c_X11_within Γ l 0 0 1 ) hP hD hS hA nil_mem nil_D rfl hl.1 rfl ⟨⟨by decide, by decide⟩, by decide, by decide⟩ (Nat.le_of_ble_eq_true rfl) dX11_from_3 (fun r_3 H locs hw hP hS => ?_)
  have hw := hw.symm
  subst hw
  refine lv_if_ne (tgt := 18) zx zb dX11_from_6 (by decide) (fun c_6 => ?_) (fun c_6 => ?_)
  · have c_6 : (wi 0 0 1) = true := bI_ne c_6
    refine lv_aload_n zx zb dX11_from_18 rfl (lv_at hl 0 rfl) ?_
    refine g_get (v := .ref (t 1)) XX hP 0 0 rfl rfl rfl iwX11 2 (by decide) fl_X11_39 rfl dX11_from_19 ?_
    refine lv_iload_n zx zb dX11_from_22 rfl (lv_at hl 1 rfl) ?_
    refine g_aaldO (i := 0) XX hP 1 0 3 rfl rfl rfl (by decide) (by decide) hf dX11_from_23 ?_
    refine lv_ifnonnullN zx zb dX11_from_24 ?_
    refine lv_aload_n zx zb dX11_from_27 rfl (lv_at hl 0 rfl) ?_
    refine lv_bipush (v := (-3)) zx zb dX11_from_28 (by decide) ?_
    refine lv_bipush (v := (-3)) zx zb dX11_from_30 (by decide) ?_
    refine call_Vi (As := [.int (-3), .int (-3)]) (rest := []) XX cv_X11_79 (c_X11_refused Γ l t s x V (-3) (-3) ) hP hD hS hA [0] (by decide) rfl (fun _ => rfl) 0 0 rfl rfl rfl rfl hl.1 rfl ⟨⟨by decide, by decide⟩, by decide, by decide⟩ (Nat.le_of_ble_eq_true rfl) dX11_from_32 (fun r_32 u H locs hw hP hD hS => ?_)
    obtain ⟨hw1, hw2⟩ := hw
    have hw1 := hw1.symm
    have hw2 := hw2.symm
    subst hw1
    subst hw2
    have hP : bP Γ [bTT Γ t s x (ttRef V (-3)), [(t 1, .inl (Γ.2 3, 2, .inr (.inr (.inr (.inr f)))))]] H := hP
    have hD : bD AA [bTT Γ t s x (ttRef V (-3)), [(t 1, .inl (Γ.2 3, 2, .inr (.inr (.inr (.inr f)))))]] := hD
    exact fin _ _ (-3) (ttRef V (-3)) 35 _ dX11_from_35 (fun h => by cases h) (⟨rfl, rfl⟩) hP hD hS
  · have c_6 : (wi 0 0 1) = false := bI_0.mp c_6
    exact absurd c_6 (by decide)

set_option maxHeartbeats 4000000 in
set_option maxRecDepth 100000 in
theorem c_X11_from_no_1 (Γ : GG) (l : Launch) (t : Nat → Nat) (s : Nat → Nat) (x : Nat → Nat) (V : V3) (f : Nat → Option Nat) (hf : f 1 = none) : Ci Γ l yX11_from cX11_from 2 (some (.int)) 1 22 0 0 [.ref (t 0), .int (nI 1)] [bTT Γ t s x V, [(t 1, .inl (Γ.2 3, 2, .inr (.inr (.inr (.inr f)))))]] (fun (r : Int32) (u : V3) => r = (-3) ∧ u = ttRef V (-3)) (fun (u : V3) => [bTT Γ t s x u, [(t 1, .inl (Γ.2 3, 2, .inr (.inr (.inr (.inr f)))))]]) := by
  refine Ci.of (Or.inl rfl) (by decide) (Nat.le_of_ble_eq_true rfl) ?_
  intro pp ee ss mm bb me cd AA QQ XX hnm hA hP hD fin ls hl
  obtain ⟨zx, zb, hml, hown, hts, hK⟩ := id XX
  have hS : va_S AA ss.heap ss.heap [] := va_S.rf
  have hl : lv_has ls 2 [(0, .ref (t 0)), (1, .int (nI 1))] := hl
  refine lv_iload_n zx zb dX11_from_0 rfl (lv_at hl 1 rfl) ?_
  refine lv_iconst (v := nI 0) zx zb dX11_from_1 (by decide) ?_
  refine lv_iconst (v := nI 1) zx zb dX11_from_2 (by decide) ?_
  refine callR_Si (As := [.int (nI 1), .int (nI 0), .int (nI 1)]) (rest := []) XX cs_X11_75 (c_X11_within Γ l 1 0 1 ) hP hD hS hA nil_mem nil_D rfl hl.1 rfl ⟨⟨by decide, by decide⟩, by decide, by decide⟩ (Nat.le_of_ble_eq_true rfl) dX11_from_3 (fun r_3 H locs hw hP hS => ?_)
  have hw := hw.symm
  subst hw
  refine lv_if_ne (tgt := 18) zx zb dX11_from_6 (by decide) (fun c_6 => ?_) (fun c_6 => ?_)
  · have c_6 : (wi 1 0 1) = true := bI_ne c_6
    refine lv_aload_n zx zb dX11_from_18 rfl (lv_at hl 0 rfl) ?_
    refine g_get (v := .ref (t 1)) XX hP 0 0 rfl rfl rfl iwX11 2 (by decide) fl_X11_39 rfl dX11_from_19 ?_
    refine lv_iload_n zx zb dX11_from_22 rfl (lv_at hl 1 rfl) ?_
    refine g_aaldO (i := 1) XX hP 1 0 3 rfl rfl rfl (by decide) (by decide) hf dX11_from_23 ?_
    refine lv_ifnonnullN zx zb dX11_from_24 ?_
    refine lv_aload_n zx zb dX11_from_27 rfl (lv_at hl 0 rfl) ?_
    refine lv_bipush (v := (-3)) zx zb dX11_from_28 (by decide) ?_
    refine lv_bipush (v := (-3)) zx zb dX11_from_30 (by decide) ?_
    refine call_Vi (As := [.int (-3), .int (-3)]) (rest := []) XX cv_X11_79 (c_X11_refused Γ l t s x V (-3) (-3) ) hP hD hS hA [0] (by decide) rfl (fun _ => rfl) 0 0 rfl rfl rfl rfl hl.1 rfl ⟨⟨by decide, by decide⟩, by decide, by decide⟩ (Nat.le_of_ble_eq_true rfl) dX11_from_32 (fun r_32 u H locs hw hP hD hS => ?_)
    obtain ⟨hw1, hw2⟩ := hw
    have hw1 := hw1.symm
    have hw2 := hw2.symm
    subst hw1
    subst hw2
    have hP : bP Γ [bTT Γ t s x (ttRef V (-3)), [(t 1, .inl (Γ.2 3, 2, .inr (.inr (.inr (.inr f)))))]] H := hP
    have hD : bD AA [bTT Γ t s x (ttRef V (-3)), [(t 1, .inl (Γ.2 3, 2, .inr (.inr (.inr (.inr f)))))]] := hD
    exact fin _ _ (-3) (ttRef V (-3)) 35 _ dX11_from_35 (fun h => by cases h) (⟨rfl, rfl⟩) hP hD hS
  · have c_6 : (wi 1 0 1) = false := bI_0.mp c_6
    exact absurd c_6 (by decide)
