
set_option maxHeartbeats 4000000 in
set_option maxRecDepth 100000 in
theorem c0_X12_isSpring (Γ : GG) (l : Launch) (m : Nat → Nat) (M : MoV) (b : Nat → Int32) (C : CoV) (tr : Nat → TrV) (Y : YrV) (pc : Nat) (P : Nat → YrV) (z : Int32) (hr : Rel0 b C tr Y pc P) (hI : Inv C tr Y) : Ci Γ l yX12_isSpring cX12_isSpring 2 (some (.boolean)) 0 0 0 0 [.ref (m 0), .int z] [bMo Γ m M, bA Γ (m 1) 259 b] (fun (r : Int32) (u : Unit) => r = bI (coSpring C z)) (fun (u : Unit) => [bMo Γ m M, bA Γ (m 1) 259 b]) := by
  refine Ci.of (Or.inr rfl) (by decide) (Nat.le_of_ble_eq_true rfl) ?_
  intro pp ee ss mm bb me cd AA QQ XX hnm hA hP hD fin ls hl
  obtain ⟨zx, zb, hml, hown, hts, hK⟩ := id XX
  have hS : va_S AA ss.heap ss.heap [] := va_S.rf
  have hl : lv_has ls 2 [(0, .ref (m 0)), (1, .int z)] := hl
  refine lv_iload_n zx zb dX12_isSpring_0 rfl (lv_at hl 1 rfl) ?_
  refine lv_aload_n zx zb dX12_isSpring_1 rfl (lv_at hl 0 rfl) ?_
  refine g_get (v := .ref (m 1)) XX hP 0 0 rfl rfl rfl iwX12 0 (by decide) fl_X12_7 rfl dX12_isSpring_2 ?_
  refine lv_iconst (v := nI 3) zx zb dX12_isSpring_5 (by decide) ?_
  refine g_ialdN (i := 3) XX hP 1 0 rfl rfl (by omega) (by decide) dX12_isSpring_6 ?_
  refine g_top (y := C.2.1) (Rel0.mo hr) ?_
  refine lv_irem zx zb dX12_isSpring_7 (inv_mo hI) ?_
  refine lv_if_ne (tgt := 15) zx zb dX12_isSpring_8 (by decide) (fun c_8 => ?_) (fun c_8 => ?_)
  · have c_8 : ¬ ((z - z / C.2.1 * C.2.1) = (0 : Int32)) := c_8
    refine lv_iconst (v := nI 0) zx zb dX12_isSpring_15 (by decide) ?_
    exact fin _ _ (nI 0) () 16 _ dX12_isSpring_16 (fun _ => nar0) (by first | exact retT (by rw [spring_eq hI]; first | exact decide_eq_true c_8 | exact decide_eq_false c_8) | exact retF (by rw [spring_eq hI]; first | exact decide_eq_true c_8 | exact decide_eq_false c_8)) hP hD hS
  · have c_8 : (z - z / C.2.1 * C.2.1) = (0 : Int32) := c_8
    refine lv_iconst (v := nI 1) zx zb dX12_isSpring_11 (by decide) ?_
    refine lv_goto (tgt := 16) zx zb dX12_isSpring_12 (by decide) ?_
    exact fin _ _ (nI 1) () 16 _ dX12_isSpring_16 (fun _ => nar1) (by first | exact retT (by rw [spring_eq hI]; first | exact decide_eq_true c_8 | exact decide_eq_false c_8) | exact retF (by rw [spring_eq hI]; first | exact decide_eq_true c_8 | exact decide_eq_false c_8)) hP hD hS

set_option maxHeartbeats 4000000 in
set_option maxRecDepth 100000 in
theorem c0_X12_stormOf (Γ : GG) (l : Launch) (m : Nat → Nat) (M : MoV) (b : Nat → Int32) (C : CoV) (tr : Nat → TrV) (Y : YrV) (pc : Nat) (P : Nat → YrV) (z : Int32) (hr : Rel0 b C tr Y pc P) (hI : Inv C tr Y) (hz : ∃ y : Nat, y < 2 ^ 31 ∧ z = nI y) : Ci Γ l yX12_stormOf cX12_stormOf 2 (some (.int)) 1 21 0 0 [.ref (m 0), .int z] [bMo Γ m M, bA Γ (m 1) 259 b] (fun (r : Int32) (u : Unit) => r = coStorm C z) (fun (u : Unit) => [bMo Γ m M, bA Γ (m 1) 259 b]) := by
  refine Ci.of (Or.inl rfl) (by decide) (Nat.le_of_ble_eq_true rfl) ?_
  intro pp ee ss mm bb me cd AA QQ XX hnm hA hP hD fin ls hl
  obtain ⟨zx, zb, hml, hown, hts, hK⟩ := id XX
  have hS : va_S AA ss.heap ss.heap [] := va_S.rf
  have hl : lv_has ls 2 [(0, .ref (m 0)), (1, .int z)] := hl
  obtain ⟨j, hj, rfl⟩ := hz
  refine lv_aload_n zx zb dX12_stormOf_0 rfl (lv_at hl 0 rfl) ?_
  refine g_get (v := .ref (m 1)) XX hP 0 0 rfl rfl rfl iwX12 0 (by decide) fl_X12_7 rfl dX12_stormOf_1 ?_
  refine lv_bipush (v := nI 7) zx zb dX12_stormOf_4 (by decide) ?_
  refine lv_iload_n zx zb dX12_stormOf_6 rfl (lv_at hl 1 rfl) ?_
  refine lv_bipush (v := nI 8) zx zb dX12_stormOf_7 (by decide) ?_
  refine lv_irem zx zb dX12_stormOf_9 (by decide) ?_
  refine g_top (y := (nI j) - (nI j) / 8 * 8) rfl ?_
  refine g_top (y := nI (j % 8)) (rem8 hj) ?_
  refine lv_iadd zx zb dX12_stormOf_10 ?_
  refine g_top (y := nI (7 + (j % 8))) (nI_add 7 (j % 8)) ?_
  refine g_ialdN (i := 7 + (j % 8)) XX hP 1 0 rfl rfl (by omega) (by decide) dX12_stormOf_11 ?_
  refine g_top (y := C.2.2.2.2.2.1 (j % 8)) (Rel0.wn hr (Nat.mod_lt _ (by decide))) ?_
  refine lv_aload_n zx zb dX12_stormOf_12 rfl (lv_at hl 0 rfl) ?_
  refine lv_iload_n zx zb dX12_stormOf_13 rfl (lv_at hl 1 rfl) ?_
  refine call_Vi (As := [.int (nI j)]) (rest := [.int (C.2.2.2.2.2.1 (j % 8))]) XX cv_X12_184 (c0_X12_isSpring Γ l m M b C tr Y pc P (nI j) (hr) (hI)) hP hD hS hA [0, 1] (by decide) rfl (fun _ => rfl) 0 0 rfl rfl rfl rfl hl.1 rfl ⟨⟨by decide, by decide⟩, by decide, by decide⟩ (Nat.le_of_ble_eq_true rfl) dX12_stormOf_14 (fun r_14 u H locs hw hP hD hS => ?_)
  have hw := hw.symm
  subst hw
  have hP : bP Γ [bMo Γ m M, bA Γ (m 1) 259 b] H := hP
  have hD : bD AA [bMo Γ m M, bA Γ (m 1) 259 b] := hD
  refine lv_if_eq (tgt := 24) zx zb dX12_stormOf_17 (by decide) (fun c_17 => ?_) (fun c_17 => ?_)
  · have c_17 : (coSpring C (nI j)) = false := bI_0.mp c_17
    refine lv_iconst (v := nI 0) zx zb dX12_stormOf_24 (by decide) ?_
    refine lv_iadd zx zb dX12_stormOf_25 ?_
    refine g_top (y := (C.2.2.2.2.2.1 (j % 8)) + 0) rfl ?_
    exact fin _ _ ((C.2.2.2.2.2.1 (j % 8)) + 0) () 26 _ dX12_stormOf_26 (fun h => by cases h) (by unfold coStorm coMore; rw [and7 hj, c_17]; rfl) hP hD hS
  · have c_17 : (coSpring C (nI j)) = true := bI_ne c_17
    refine lv_iconst (v := nI 2) zx zb dX12_stormOf_20 (by decide) ?_
    refine lv_goto (tgt := 25) zx zb dX12_stormOf_21 (by decide) ?_
    refine lv_iadd zx zb dX12_stormOf_25 ?_
    refine g_top (y := (C.2.2.2.2.2.1 (j % 8)) + 2) rfl ?_
    exact fin _ _ ((C.2.2.2.2.2.1 (j % 8)) + 2) () 26 _ dX12_stormOf_26 (fun h => by cases h) (by unfold coStorm coMore; rw [and7 hj, c_17]; rfl) hP hD hS

set_option maxHeartbeats 4000000 in
set_option maxRecDepth 100000 in
theorem c0_X12_holds (Γ : GG) (l : Launch) (m : Nat → Nat) (M : MoV) (b : Nat → Int32) (C : CoV) (tr : Nat → TrV) (Y : YrV) (pc : Nat) (P : Nat → YrV) (t : Nat) (z : Int32) (hr : Rel0 b C tr Y pc P) (hI : Inv C tr Y) (ht : t < C.2.2.2.2.2.2.1) : Ci Γ l yX12_holds cX12_holds 4 (some (.int)) 1 21 0 0 [.ref (m 0), .int (nI t), .int z] [bMo Γ m M, bA Γ (m 1) 259 b] (fun (r : Int32) (u : Unit) => r = kHolds (tr t).1 (coSpring C z)) (fun (u : Unit) => [bMo Γ m M, bA Γ (m 1) 259 b]) := by
  refine Ci.of (Or.inl rfl) (by decide) (Nat.le_of_ble_eq_true rfl) ?_
  intro pp ee ss mm bb me cd AA QQ XX hnm hA hP hD fin ls hl
  obtain ⟨zx, zb, hml, hown, hts, hK⟩ := id XX
  have hS : va_S AA ss.heap ss.heap [] := va_S.rf
  have hl : lv_has ls 4 [(0, .ref (m 0)), (1, .int (nI t)), (2, .int z)] := hl
  have htc := inv_tc hI
  have h6 := inv_kd hI t (by omega)
  refine lv_aload_n zx zb dX12_holds_0 rfl (lv_at hl 0 rfl) ?_
  refine g_get (v := .ref (m 1)) XX hP 0 0 rfl rfl rfl iwX12 0 (by decide) fl_X12_7 rfl dX12_holds_1 ?_
  refine lv_iload_n zx zb dX12_holds_4 rfl (lv_at hl 1 rfl) ?_
  refine lv_iconst (v := nI 0) zx zb dX12_holds_5 (by decide) ?_
  refine callR_Si (As := [.int (nI t), .int (nI 0)]) (rest := [.ref (m 1)]) XX cs_X12_96 (c_X12_of0 Γ l t 0 ) hP hD hS hA nil_mem nil_D rfl hl.1 rfl ⟨⟨by decide, by decide⟩, by decide, by decide⟩ (Nat.le_of_ble_eq_true rfl) dX12_holds_6 (fun r_6 H locs hw hP hS => ?_)
  have hw := hw.symm
  subst hw
  refine g_ialdN (i := 55 + 7 * t + 0) XX hP 1 0 rfl rfl (by omega) (by decide) dX12_holds_9 ?_
  refine g_top (y := nI ((tr t).1)) (Rel0.t0 hr (by omega)) ?_
  refine lv_istore_n (lv' := [(3, .int (nI ((tr t).1))), (0, .ref (m 0)), (1, .int (nI t)), (2, .int z)]) zx zb dX12_holds_10 rfl hl (by decide) rfl (fun ls hl => ?_)
  refine lv_iload_n zx zb dX12_holds_11 rfl (lv_at hl 0 rfl) ?_
  refine lv_iconst (v := nI 1) zx zb dX12_holds_12 (by decide) ?_
  refine lv_icmp_eq (tgt := 21) zx zb dX12_holds_13 (by decide) (fun c_13 => ?_) (fun c_13 => ?_)
  · have c_13 : (tr t).1 = 1 := (nI_eq (a := (tr t).1) (b := 1) (by omega) (by omega)).mp c_13
    refine lv_bipush (v := nI 11) zx zb dX12_holds_21 (by decide) ?_
    refine lv_goto (tgt := 55) zx zb dX12_holds_23 (by decide) ?_
    exact fin _ _ (nI 11) () 55 _ dX12_holds_55 (fun h => by cases h) (by first | exact kH_a (Or.inl c_13) | exact kH_a (Or.inr c_18) | exact kH_b c_28 c_36 | exact kH_c c_46 | exact kH_d h6 c_13 c_18 c_46 (Or.inl c_28) | exact kH_d h6 c_13 c_18 c_46 (Or.inr c_36)) hP hD hS
  · have c_13 : ¬ ((tr t).1 = 1) := fun h => c_13 ((nI_eq (a := (tr t).1) (b := 1) (by omega) (by omega)).mpr h)
    refine lv_iload_n zx zb dX12_holds_16 rfl (lv_at hl 0 rfl) ?_
    refine lv_iconst (v := nI 4) zx zb dX12_holds_17 (by decide) ?_
    refine lv_icmp_ne (tgt := 26) zx zb dX12_holds_18 (by decide) (fun c_18 => ?_) (fun c_18 => ?_)
    · have c_18 : ¬ ((tr t).1 = 4) := fun h => c_18 ((nI_eq (a := (tr t).1) (b := 4) (by omega) (by omega)).mpr h)
      refine lv_iload_n zx zb dX12_holds_26 rfl (lv_at hl 0 rfl) ?_
      refine lv_iconst (v := nI 2) zx zb dX12_holds_27 (by decide) ?_
      refine lv_icmp_ne (tgt := 44) zx zb dX12_holds_28 (by decide) (fun c_28 => ?_) (fun c_28 => ?_)
      · have c_28 : ¬ ((tr t).1 = 2) := fun h => c_28 ((nI_eq (a := (tr t).1) (b := 2) (by omega) (by omega)).mpr h)
        refine lv_iload_n zx zb dX12_holds_44 rfl (lv_at hl 0 rfl) ?_
        refine lv_iconst (v := nI 5) zx zb dX12_holds_45 (by decide) ?_
        refine lv_icmp_ne (tgt := 53) zx zb dX12_holds_46 (by decide) (fun c_46 => ?_) (fun c_46 => ?_)
        · have c_46 : ¬ ((tr t).1 = 5) := fun h => c_46 ((nI_eq (a := (tr t).1) (b := 5) (by omega) (by omega)).mpr h)
          refine lv_bipush (v := nI 8) zx zb dX12_holds_53 (by decide) ?_
          exact fin _ _ (nI 8) () 55 _ dX12_holds_55 (fun h => by cases h) (by first | exact kH_a (Or.inl c_13) | exact kH_a (Or.inr c_18) | exact kH_b c_28 c_36 | exact kH_c c_46 | exact kH_d h6 c_13 c_18 c_46 (Or.inl c_28) | exact kH_d h6 c_13 c_18 c_46 (Or.inr c_36)) hP hD hS
        · have c_46 : (tr t).1 = 5 := (nI_eq (a := (tr t).1) (b := 5) (by omega) (by omega)).mp c_46
          refine lv_iconst (v := nI 4) zx zb dX12_holds_49 (by decide) ?_
          refine lv_goto (tgt := 55) zx zb dX12_holds_50 (by decide) ?_
          exact fin _ _ (nI 4) () 55 _ dX12_holds_55 (fun h => by cases h) (by first | exact kH_a (Or.inl c_13) | exact kH_a (Or.inr c_18) | exact kH_b c_28 c_36 | exact kH_c c_46 | exact kH_d h6 c_13 c_18 c_46 (Or.inl c_28) | exact kH_d h6 c_13 c_18 c_46 (Or.inr c_36)) hP hD hS
      · have c_28 : (tr t).1 = 2 := (nI_eq (a := (tr t).1) (b := 2) (by omega) (by omega)).mp c_28
        refine lv_aload_n zx zb dX12_holds_31 rfl (lv_at hl 1 rfl) ?_
        refine lv_iload_n zx zb dX12_holds_32 rfl (lv_at hl 3 rfl) ?_
        refine call_Vi (As := [.int z]) (rest := []) XX cv_X12_184 (c0_X12_isSpring Γ l m M b C tr Y pc P z (hr) (hI)) hP hD hS hA [0, 1] (by decide) rfl (fun _ => rfl) 0 0 rfl rfl rfl rfl hl.1 rfl ⟨⟨by decide, by decide⟩, by decide, by decide⟩ (Nat.le_of_ble_eq_true rfl) dX12_holds_33 (fun r_33 u H locs hw hP hD hS => ?_)
        have hw := hw.symm
        subst hw
        have hP : bP Γ [bMo Γ m M, bA Γ (m 1) 259 b] H := hP
        have hD : bD AA [bMo Γ m M, bA Γ (m 1) 259 b] := hD
        refine lv_if_eq (tgt := 44) zx zb dX12_holds_36 (by decide) (fun c_36 => ?_) (fun c_36 => ?_)
        · have c_36 : (coSpring C z) = false := bI_0.mp c_36
          refine lv_iload_n zx zb dX12_holds_44 rfl (lv_at hl 0 rfl) ?_
          refine lv_iconst (v := nI 5) zx zb dX12_holds_45 (by decide) ?_
          refine lv_icmp_ne (tgt := 53) zx zb dX12_holds_46 (by decide) (fun c_46 => ?_) (fun c_46 => ?_)
          · have c_46 : ¬ ((tr t).1 = 5) := fun h => c_46 ((nI_eq (a := (tr t).1) (b := 5) (by omega) (by omega)).mpr h)
            refine lv_bipush (v := nI 8) zx zb dX12_holds_53 (by decide) ?_
            exact fin _ _ (nI 8) () 55 _ dX12_holds_55 (fun h => by cases h) (by first | exact kH_a (Or.inl c_13) | exact kH_a (Or.inr c_18) | exact kH_b c_28 c_36 | exact kH_c c_46 | exact kH_d h6 c_13 c_18 c_46 (Or.inl c_28) | exact kH_d h6 c_13 c_18 c_46 (Or.inr c_36)) hP hD hS
          · have c_46 : (tr t).1 = 5 := (nI_eq (a := (tr t).1) (b := 5) (by omega) (by omega)).mp c_46
            refine lv_iconst (v := nI 4) zx zb dX12_holds_49 (by decide) ?_
            refine lv_goto (tgt := 55) zx zb dX12_holds_50 (by decide) ?_
            exact fin _ _ (nI 4) () 55 _ dX12_holds_55 (fun h => by cases h) (by first | exact kH_a (Or.inl c_13) | exact kH_a (Or.inr c_18) | exact kH_b c_28 c_36 | exact kH_c c_46 | exact kH_d h6 c_13 c_18 c_46 (Or.inl c_28) | exact kH_d h6 c_13 c_18 c_46 (Or.inr c_36)) hP hD hS
        · have c_36 : (coSpring C z) = true := bI_ne c_36
          refine lv_bipush (v := nI 15) zx zb dX12_holds_39 (by decide) ?_
          refine lv_goto (tgt := 55) zx zb dX12_holds_41 (by decide) ?_
          exact fin _ _ (nI 15) () 55 _ dX12_holds_55 (fun h => by cases h) (by first | exact kH_a (Or.inl c_13) | exact kH_a (Or.inr c_18) | exact kH_b c_28 c_36 | exact kH_c c_46 | exact kH_d h6 c_13 c_18 c_46 (Or.inl c_28) | exact kH_d h6 c_13 c_18 c_46 (Or.inr c_36)) hP hD hS
    · have c_18 : (tr t).1 = 4 := (nI_eq (a := (tr t).1) (b := 4) (by omega) (by omega)).mp c_18
      refine lv_bipush (v := nI 11) zx zb dX12_holds_21 (by decide) ?_
      refine lv_goto (tgt := 55) zx zb dX12_holds_23 (by decide) ?_
      exact fin _ _ (nI 11) () 55 _ dX12_holds_55 (fun h => by cases h) (by first | exact kH_a (Or.inl c_13) | exact kH_a (Or.inr c_18) | exact kH_b c_28 c_36 | exact kH_c c_46 | exact kH_d h6 c_13 c_18 c_46 (Or.inl c_28) | exact kH_d h6 c_13 c_18 c_46 (Or.inr c_36)) hP hD hS

set_option maxHeartbeats 4000000 in
set_option maxRecDepth 100000 in
theorem c0_X12_costs (Γ : GG) (l : Launch) (m : Nat → Nat) (M : MoV) (b : Nat → Int32) (C : CoV) (tr : Nat → TrV) (Y : YrV) (pc : Nat) (P : Nat → YrV) (t : Nat) (hr : Rel0 b C tr Y pc P) (hI : Inv C tr Y) (ht : t < C.2.2.2.2.2.2.1) : Ci Γ l yX12_costs cX12_costs 4 (some (.int)) 1 21 0 0 [.ref (m 0), .int (nI t)] [bMo Γ m M, bA Γ (m 1) 259 b] (fun (r : Int32) (u : Unit) => r = tCosts (tr t)) (fun (u : Unit) => [bMo Γ m M, bA Γ (m 1) 259 b]) := by
  refine Ci.of (Or.inl rfl) (by decide) (Nat.le_of_ble_eq_true rfl) ?_
  intro pp ee ss mm bb me cd AA QQ XX hnm hA hP hD fin ls hl
  obtain ⟨zx, zb, hml, hown, hts, hK⟩ := id XX
  have hS : va_S AA ss.heap ss.heap [] := va_S.rf
  have hl : lv_has ls 4 [(0, .ref (m 0)), (1, .int (nI t))] := hl
  have htc := inv_tc hI
  have h6 := inv_kd hI t (by omega)
  refine lv_aload_n zx zb dX12_costs_0 rfl (lv_at hl 0 rfl) ?_
  refine g_get (v := .ref (m 1)) XX hP 0 0 rfl rfl rfl iwX12 0 (by decide) fl_X12_7 rfl dX12_costs_1 ?_
  refine lv_iload_n zx zb dX12_costs_4 rfl (lv_at hl 1 rfl) ?_
  refine lv_iconst (v := nI 0) zx zb dX12_costs_5 (by decide) ?_
  refine callR_Si (As := [.int (nI t), .int (nI 0)]) (rest := [.ref (m 1)]) XX cs_X12_96 (c_X12_of0 Γ l t 0 ) hP hD hS hA nil_mem nil_D rfl hl.1 rfl ⟨⟨by decide, by decide⟩, by decide, by decide⟩ (Nat.le_of_ble_eq_true rfl) dX12_costs_6 (fun r_6 H locs hw hP hS => ?_)
  have hw := hw.symm
  subst hw
  refine g_ialdN (i := 55 + 7 * t + 0) XX hP 1 0 rfl rfl (by omega) (by decide) dX12_costs_9 ?_
  refine g_top (y := nI ((tr t).1)) (Rel0.t0 hr (by omega)) ?_
  refine lv_istore_n (lv' := [(2, .int (nI ((tr t).1))), (0, .ref (m 0)), (1, .int (nI t))]) zx zb dX12_costs_10 rfl hl (by decide) rfl (fun ls hl => ?_)
  refine lv_aload_n zx zb dX12_costs_11 rfl (lv_at hl 1 rfl) ?_
  refine g_get (v := .ref (m 1)) XX hP 0 0 rfl rfl rfl iwX12 0 (by decide) fl_X12_7 rfl dX12_costs_12 ?_
  refine lv_iload_n zx zb dX12_costs_15 rfl (lv_at hl 2 rfl) ?_
  refine lv_iconst (v := nI 5) zx zb dX12_costs_16 (by decide) ?_
  refine callR_Si (As := [.int (nI t), .int (nI 5)]) (rest := [.ref (m 1)]) XX cs_X12_96 (c_X12_of0 Γ l t 5 ) hP hD hS hA nil_mem nil_D rfl hl.1 rfl ⟨⟨by decide, by decide⟩, by decide, by decide⟩ (Nat.le_of_ble_eq_true rfl) dX12_costs_17 (fun r_17 H locs hw hP hS => ?_)
  have hw := hw.symm
  subst hw
  refine g_ialdN (i := 55 + 7 * t + 5) XX hP 1 0 rfl rfl (by omega) (by decide) dX12_costs_20 ?_
  refine g_top (y := (tr t).2.2.2.2.2.2.1) (Rel0.t5 hr (by omega)) ?_
  refine lv_istore_n (lv' := [(3, .int ((tr t).2.2.2.2.2.2.1)), (2, .int (nI ((tr t).1))), (0, .ref (m 0)), (1, .int (nI t))]) zx zb dX12_costs_21 rfl hl (by decide) rfl (fun ls hl => ?_)
  refine lv_iload_n zx zb dX12_costs_22 rfl (lv_at hl 1 rfl) ?_
  refine lv_iconst (v := nI 3) zx zb dX12_costs_23 (by decide) ?_
  refine lv_icmp_ne (tgt := 33) zx zb dX12_costs_24 (by decide) (fun c_24 => ?_) (fun c_24 => ?_)
  · have c_24 : ¬ ((tr t).1 = 3) := fun h => c_24 ((nI_eq (a := (tr t).1) (b := 3) (by omega) (by omega)).mpr h)
    refine lv_iload_n zx zb dX12_costs_33 rfl (lv_at hl 1 rfl) ?_
    refine lv_iconst (v := nI 4) zx zb dX12_costs_34 (by decide) ?_
    refine lv_icmp_ne (tgt := 44) zx zb dX12_costs_35 (by decide) (fun c_35 => ?_) (fun c_35 => ?_)
    · have c_35 : ¬ ((tr t).1 = 4) := fun h => c_35 ((nI_eq (a := (tr t).1) (b := 4) (by omega) (by omega)).mpr h)
      refine lv_iload_n zx zb dX12_costs_44 rfl (lv_at hl 1 rfl) ?_
      refine lv_iconst (v := nI 5) zx zb dX12_costs_45 (by decide) ?_
      refine lv_icmp_ne (tgt := 57) zx zb dX12_costs_46 (by decide) (fun c_46 => ?_) (fun c_46 => ?_)
      · have c_46 : ¬ ((tr t).1 = 5) := fun h => c_46 ((nI_eq (a := (tr t).1) (b := 5) (by omega) (by omega)).mpr h)
        refine lv_iload_n zx zb dX12_costs_57 rfl (lv_at hl 0 rfl) ?_
        exact fin _ _ ((tr t).2.2.2.2.2.2.1) () 58 _ dX12_costs_58 (fun h => by cases h) (by rw [← inv_cs hI (show t < 6 by omega)]; first | (rw [c_24]; rfl) | (rw [c_35]; rfl) | (rw [c_46]; exact kC_5) | exact kC_0 h6 c_24 c_35 c_46) hP hD hS
      · have c_46 : (tr t).1 = 5 := (nI_eq (a := (tr t).1) (b := 5) (by omega) (by omega)).mp c_46
        refine lv_iload_n zx zb dX12_costs_49 rfl (lv_at hl 0 rfl) ?_
        refine lv_iconst (v := nI 2) zx zb dX12_costs_50 (by decide) ?_
        refine lv_iadd zx zb dX12_costs_51 ?_
        refine g_top (y := ((tr t).2.2.2.2.2.2.1) + 2) rfl ?_
        refine lv_iconst (v := nI 2) zx zb dX12_costs_52 (by decide) ?_
        refine lv_idiv zx zb dX12_costs_53 (by decide) ?_
        refine g_top (y := (((tr t).2.2.2.2.2.2.1) + 2) / 2) rfl ?_
        refine lv_goto (tgt := 58) zx zb dX12_costs_54 (by decide) ?_
        exact fin _ _ ((((tr t).2.2.2.2.2.2.1) + 2) / 2) () 58 _ dX12_costs_58 (fun h => by cases h) (by rw [← inv_cs hI (show t < 6 by omega)]; first | (rw [c_24]; rfl) | (rw [c_35]; rfl) | (rw [c_46]; exact kC_5) | exact kC_0 h6 c_24 c_35 c_46) hP hD hS
    · have c_35 : (tr t).1 = 4 := (nI_eq (a := (tr t).1) (b := 4) (by omega) (by omega)).mp c_35
      refine lv_iconst (v := nI 2) zx zb dX12_costs_38 (by decide) ?_
      refine lv_iload_n zx zb dX12_costs_39 rfl (lv_at hl 0 rfl) ?_
      refine lv_imul zx zb dX12_costs_40 ?_
      refine g_top (y := 2 * ((tr t).2.2.2.2.2.2.1)) rfl ?_
      refine lv_goto (tgt := 58) zx zb dX12_costs_41 (by decide) ?_
      exact fin _ _ (2 * ((tr t).2.2.2.2.2.2.1)) () 58 _ dX12_costs_58 (fun h => by cases h) (by rw [← inv_cs hI (show t < 6 by omega)]; first | (rw [c_24]; rfl) | (rw [c_35]; rfl) | (rw [c_46]; exact kC_5) | exact kC_0 h6 c_24 c_35 c_46) hP hD hS
  · have c_24 : (tr t).1 = 3 := (nI_eq (a := (tr t).1) (b := 3) (by omega) (by omega)).mp c_24
    refine lv_iload_n zx zb dX12_costs_27 rfl (lv_at hl 0 rfl) ?_
    refine lv_iconst (v := nI 1) zx zb dX12_costs_28 (by decide) ?_
    refine lv_iadd zx zb dX12_costs_29 ?_
    refine g_top (y := ((tr t).2.2.2.2.2.2.1) + 1) rfl ?_
    refine lv_goto (tgt := 58) zx zb dX12_costs_30 (by decide) ?_
    exact fin _ _ (((tr t).2.2.2.2.2.2.1) + 1) () 58 _ dX12_costs_58 (fun h => by cases h) (by rw [← inv_cs hI (show t < 6 by omega)]; first | (rw [c_24]; rfl) | (rw [c_35]; rfl) | (rw [c_46]; exact kC_5) | exact kC_0 h6 c_24 c_35 c_46) hP hD hS

set_option maxHeartbeats 4000000 in
set_option maxRecDepth 100000 in
theorem c0_X12_dueOf (Γ : GG) (l : Launch) (m : Nat → Nat) (M : MoV) (b : Nat → Int32) (C : CoV) (tr : Nat → TrV) (Y : YrV) (pc : Nat) (P : Nat → YrV) (t : Nat) (z : Int32) (hr : Rel0 b C tr Y pc P) (hI : Inv C tr Y) (ht : t < C.2.2.2.2.2.2.1) (hz : ∃ y : Nat, y < 2 ^ 31 ∧ z = nI y) : Ci Γ l yX12_dueOf cX12_dueOf 5 (some (.int)) 2 44 0 0 [.ref (m 0), .int (nI t), .int z] [bMo Γ m M, bA Γ (m 1) 259 b] (fun (r : Int32) (u : Unit) => r = kDue (tr t).1 (tCosts (tr t)) z) (fun (u : Unit) => [bMo Γ m M, bA Γ (m 1) 259 b]) := by
  refine Ci.of (Or.inl rfl) (by decide) (Nat.le_of_ble_eq_true rfl) ?_
  intro pp ee ss mm bb me cd AA QQ XX hnm hA hP hD fin ls hl
  obtain ⟨zx, zb, hml, hown, hts, hK⟩ := id XX
  have hS : va_S AA ss.heap ss.heap [] := va_S.rf
  have hl : lv_has ls 5 [(0, .ref (m 0)), (1, .int (nI t)), (2, .int z)] := hl
  have htc := inv_tc hI
  have h6 := inv_kd hI t (by omega)
  obtain ⟨j, hj, rfl⟩ := hz
  refine lv_aload_n zx zb dX12_dueOf_0 rfl (lv_at hl 0 rfl) ?_
  refine g_get (v := .ref (m 1)) XX hP 0 0 rfl rfl rfl iwX12 0 (by decide) fl_X12_7 rfl dX12_dueOf_1 ?_
  refine lv_iload_n zx zb dX12_dueOf_4 rfl (lv_at hl 1 rfl) ?_
  refine lv_iconst (v := nI 0) zx zb dX12_dueOf_5 (by decide) ?_
  refine callR_Si (As := [.int (nI t), .int (nI 0)]) (rest := [.ref (m 1)]) XX cs_X12_96 (c_X12_of0 Γ l t 0 ) hP hD hS hA nil_mem nil_D rfl hl.1 rfl ⟨⟨by decide, by decide⟩, by decide, by decide⟩ (Nat.le_of_ble_eq_true rfl) dX12_dueOf_6 (fun r_6 H locs hw hP hS => ?_)
  have hw := hw.symm
  subst hw
  refine g_ialdN (i := 55 + 7 * t + 0) XX hP 1 0 rfl rfl (by omega) (by decide) dX12_dueOf_9 ?_
  refine g_top (y := nI ((tr t).1)) (Rel0.t0 hr (by omega)) ?_
  refine lv_istore_n (lv' := [(3, .int (nI ((tr t).1))), (0, .ref (m 0)), (1, .int (nI t)), (2, .int (nI j))]) zx zb dX12_dueOf_10 rfl hl (by decide) rfl (fun ls hl => ?_)
  refine lv_iload_n zx zb dX12_dueOf_11 rfl (lv_at hl 0 rfl) ?_
  refine lv_iconst (v := nI 3) zx zb dX12_dueOf_12 (by decide) ?_
  refine lv_icmp_eq (tgt := 21) zx zb dX12_dueOf_13 (by decide) (fun c_13 => ?_) (fun c_13 => ?_)
  · have c_13 : (tr t).1 = 3 := (nI_eq (a := (tr t).1) (b := 3) (by omega) (by omega)).mp c_13
    refine lv_iconst (v := nI 1) zx zb dX12_dueOf_21 (by decide) ?_
    refine lv_goto (tgt := 26) zx zb dX12_dueOf_22 (by decide) ?_
    refine lv_istore (lv' := [(4, .int (nI 1)), (3, .int (nI ((tr t).1))), (0, .ref (m 0)), (1, .int (nI t)), (2, .int (nI j))]) zx zb dX12_dueOf_26 hl (by decide) rfl (fun ls hl => ?_)
    refine lv_iload zx zb dX12_dueOf_28 (lv_at hl 0 rfl) ?_
    refine lv_if_eq (tgt := 54) zx zb dX12_dueOf_30 (by decide) (fun c_30 => ?_) (fun c_30 => ?_)
    · exact absurd c_30 (by decide)
    · clear c_30
      refine lv_iload_n zx zb dX12_dueOf_33 rfl (lv_at hl 4 rfl) ?_
      refine lv_iconst (v := nI 2) zx zb dX12_dueOf_34 (by decide) ?_
      refine lv_irem zx zb dX12_dueOf_35 (by decide) ?_
      refine g_top (y := (nI j) - (nI j) / 2 * 2) rfl ?_
      refine g_top (y := nI (j % 2)) (rem2 hj) ?_
      refine lv_iconst (v := nI 1) zx zb dX12_dueOf_36 (by decide) ?_
      refine lv_icmp_ne (tgt := 50) zx zb dX12_dueOf_37 (by decide) (fun c_37 => ?_) (fun c_37 => ?_)
      · have c_37 : ¬ (j % 2 = 1) := fun h => c_37 ((nI_eq (a := j % 2) (b := 1) (by omega) (by omega)).mpr h)
        refine lv_iconst (v := nI 0) zx zb dX12_dueOf_50 (by decide) ?_
        refine lv_goto (tgt := 59) zx zb dX12_dueOf_51 (by decide) ?_
        exact fin _ _ (nI 0) () 59 _ dX12_dueOf_59 (fun h => by cases h) (by first | exact kD_a (Or.inl c_13) hj c_37 | exact kD_a (Or.inr c_18) hj c_37 | exact kD_b (Or.inl c_13) hj c_37 | exact kD_b (Or.inr c_18) hj c_37 | exact kD_0 h6 c_13 c_18) hP hD hS
      · have c_37 : j % 2 = 1 := (nI_eq (a := j % 2) (b := 1) (by omega) (by omega)).mp c_37
        refine lv_iconst (v := nI 2) zx zb dX12_dueOf_40 (by decide) ?_
        refine lv_aload_n zx zb dX12_dueOf_41 rfl (lv_at hl 2 rfl) ?_
        refine lv_iload_n zx zb dX12_dueOf_42 rfl (lv_at hl 3 rfl) ?_
        refine call_Vi (As := [.int (nI t)]) (rest := [.int (nI 2)]) XX cv_X12_187 (c0_X12_costs Γ l m M b C tr Y pc P t (hr) (hI) (ht)) hP hD hS hA [0, 1] (by decide) rfl (fun _ => rfl) 0 0 rfl rfl rfl rfl hl.1 rfl ⟨⟨by decide, by decide⟩, by decide, by decide⟩ (Nat.le_of_ble_eq_true rfl) dX12_dueOf_43 (fun r_43 u H locs hw hP hD hS => ?_)
        have hw := hw.symm
        subst hw
        have hP : bP Γ [bMo Γ m M, bA Γ (m 1) 259 b] H := hP
        have hD : bD AA [bMo Γ m M, bA Γ (m 1) 259 b] := hD
        refine lv_imul zx zb dX12_dueOf_46 ?_
        refine g_top (y := 2 * (tCosts (tr t))) rfl ?_
        refine lv_goto (tgt := 59) zx zb dX12_dueOf_47 (by decide) ?_
        exact fin _ _ (2 * (tCosts (tr t))) () 59 _ dX12_dueOf_59 (fun h => by cases h) (by first | exact kD_a (Or.inl c_13) hj c_37 | exact kD_a (Or.inr c_18) hj c_37 | exact kD_b (Or.inl c_13) hj c_37 | exact kD_b (Or.inr c_18) hj c_37 | exact kD_0 h6 c_13 c_18) hP hD hS
  · have c_13 : ¬ ((tr t).1 = 3) := fun h => c_13 ((nI_eq (a := (tr t).1) (b := 3) (by omega) (by omega)).mpr h)
    refine lv_iload_n zx zb dX12_dueOf_16 rfl (lv_at hl 0 rfl) ?_
    refine lv_iconst (v := nI 5) zx zb dX12_dueOf_17 (by decide) ?_
    refine lv_icmp_ne (tgt := 25) zx zb dX12_dueOf_18 (by decide) (fun c_18 => ?_) (fun c_18 => ?_)
    · have c_18 : ¬ ((tr t).1 = 5) := fun h => c_18 ((nI_eq (a := (tr t).1) (b := 5) (by omega) (by omega)).mpr h)
      refine lv_iconst (v := nI 0) zx zb dX12_dueOf_25 (by decide) ?_
      refine lv_istore (lv' := [(4, .int (nI 0)), (3, .int (nI ((tr t).1))), (0, .ref (m 0)), (1, .int (nI t)), (2, .int (nI j))]) zx zb dX12_dueOf_26 hl (by decide) rfl (fun ls hl => ?_)
      refine lv_iload zx zb dX12_dueOf_28 (lv_at hl 0 rfl) ?_
      refine lv_if_eq (tgt := 54) zx zb dX12_dueOf_30 (by decide) (fun c_30 => ?_) (fun c_30 => ?_)
      · clear c_30
        refine lv_aload_n zx zb dX12_dueOf_54 rfl (lv_at hl 2 rfl) ?_
        refine lv_iload_n zx zb dX12_dueOf_55 rfl (lv_at hl 3 rfl) ?_
        refine call_Vi (As := [.int (nI t)]) (rest := []) XX cv_X12_187 (c0_X12_costs Γ l m M b C tr Y pc P t (hr) (hI) (ht)) hP hD hS hA [0, 1] (by decide) rfl (fun _ => rfl) 0 0 rfl rfl rfl rfl hl.1 rfl ⟨⟨by decide, by decide⟩, by decide, by decide⟩ (Nat.le_of_ble_eq_true rfl) dX12_dueOf_56 (fun r_56 u H locs hw hP hD hS => ?_)
        have hw := hw.symm
        subst hw
        have hP : bP Γ [bMo Γ m M, bA Γ (m 1) 259 b] H := hP
        have hD : bD AA [bMo Γ m M, bA Γ (m 1) 259 b] := hD
        exact fin _ _ (tCosts (tr t)) () 59 _ dX12_dueOf_59 (fun h => by cases h) (by first | exact kD_a (Or.inl c_13) hj c_37 | exact kD_a (Or.inr c_18) hj c_37 | exact kD_b (Or.inl c_13) hj c_37 | exact kD_b (Or.inr c_18) hj c_37 | exact kD_0 h6 c_13 c_18) hP hD hS
      · exact absurd c_30 (by decide)
    · have c_18 : (tr t).1 = 5 := (nI_eq (a := (tr t).1) (b := 5) (by omega) (by omega)).mp c_18
      refine lv_iconst (v := nI 1) zx zb dX12_dueOf_21 (by decide) ?_
      refine lv_goto (tgt := 26) zx zb dX12_dueOf_22 (by decide) ?_
      refine lv_istore (lv' := [(4, .int (nI 1)), (3, .int (nI ((tr t).1))), (0, .ref (m 0)), (1, .int (nI t)), (2, .int (nI j))]) zx zb dX12_dueOf_26 hl (by decide) rfl (fun ls hl => ?_)
      refine lv_iload zx zb dX12_dueOf_28 (lv_at hl 0 rfl) ?_
      refine lv_if_eq (tgt := 54) zx zb dX12_dueOf_30 (by decide) (fun c_30 => ?_) (fun c_30 => ?_)
      · exact absurd c_30 (by decide)
      · clear c_30
        refine lv_iload_n zx zb dX12_dueOf_33 rfl (lv_at hl 4 rfl) ?_
        refine lv_iconst (v := nI 2) zx zb dX12_dueOf_34 (by decide) ?_
        refine lv_irem zx zb dX12_dueOf_35 (by decide) ?_
        refine g_top (y := (nI j) - (nI j) / 2 * 2) rfl ?_
        refine g_top (y := nI (j % 2)) (rem2 hj) ?_
        refine lv_iconst (v := nI 1) zx zb dX12_dueOf_36 (by decide) ?_
        refine lv_icmp_ne (tgt := 50) zx zb dX12_dueOf_37 (by decide) (fun c_37 => ?_) (fun c_37 => ?_)
        · have c_37 : ¬ (j % 2 = 1) := fun h => c_37 ((nI_eq (a := j % 2) (b := 1) (by omega) (by omega)).mpr h)
          refine lv_iconst (v := nI 0) zx zb dX12_dueOf_50 (by decide) ?_
          refine lv_goto (tgt := 59) zx zb dX12_dueOf_51 (by decide) ?_
          exact fin _ _ (nI 0) () 59 _ dX12_dueOf_59 (fun h => by cases h) (by first | exact kD_a (Or.inl c_13) hj c_37 | exact kD_a (Or.inr c_18) hj c_37 | exact kD_b (Or.inl c_13) hj c_37 | exact kD_b (Or.inr c_18) hj c_37 | exact kD_0 h6 c_13 c_18) hP hD hS
        · have c_37 : j % 2 = 1 := (nI_eq (a := j % 2) (b := 1) (by omega) (by omega)).mp c_37
          refine lv_iconst (v := nI 2) zx zb dX12_dueOf_40 (by decide) ?_
          refine lv_aload_n zx zb dX12_dueOf_41 rfl (lv_at hl 2 rfl) ?_
          refine lv_iload_n zx zb dX12_dueOf_42 rfl (lv_at hl 3 rfl) ?_
          refine call_Vi (As := [.int (nI t)]) (rest := [.int (nI 2)]) XX cv_X12_187 (c0_X12_costs Γ l m M b C tr Y pc P t (hr) (hI) (ht)) hP hD hS hA [0, 1] (by decide) rfl (fun _ => rfl) 0 0 rfl rfl rfl rfl hl.1 rfl ⟨⟨by decide, by decide⟩, by decide, by decide⟩ (Nat.le_of_ble_eq_true rfl) dX12_dueOf_43 (fun r_43 u H locs hw hP hD hS => ?_)
          have hw := hw.symm
          subst hw
          have hP : bP Γ [bMo Γ m M, bA Γ (m 1) 259 b] H := hP
          have hD : bD AA [bMo Γ m M, bA Γ (m 1) 259 b] := hD
          refine lv_imul zx zb dX12_dueOf_46 ?_
          refine g_top (y := 2 * (tCosts (tr t))) rfl ?_
          refine lv_goto (tgt := 59) zx zb dX12_dueOf_47 (by decide) ?_
          exact fin _ _ (2 * (tCosts (tr t))) () 59 _ dX12_dueOf_59 (fun h => by cases h) (by first | exact kD_a (Or.inl c_13) hj c_37 | exact kD_a (Or.inr c_18) hj c_37 | exact kD_b (Or.inl c_13) hj c_37 | exact kD_b (Or.inr c_18) hj c_37 | exact kD_0 h6 c_13 c_18) hP hD hS

set_option maxHeartbeats 4000000 in
set_option maxRecDepth 100000 in
theorem c0_X12_isOf (Γ : GG) (l : Launch) (m : Nat → Nat) (M : MoV) (b : Nat → Int32) (C : CoV) (tr : Nat → TrV) (Y : YrV) (pc : Nat) (P : Nat → YrV) (t : Nat) (z : Int32) (hr : Rel0 b C tr Y pc P) (hI : Inv C tr Y) (ht : t < C.2.2.2.2.2.2.1) : Ci Γ l yX12_isOf cX12_isOf 3 (some (.boolean)) 1 25 0 0 [.ref (m 0), .int (nI t), .int z] [bMo Γ m M, bA Γ (m 1) 259 b] (fun (r : Int32) (u : Unit) => r = bI (!yrBr Y t && trRuns (tr t) z)) (fun (u : Unit) => [bMo Γ m M, bA Γ (m 1) 259 b]) := by
  refine Ci.of (Or.inr rfl) (by decide) (Nat.le_of_ble_eq_true rfl) ?_
  intro pp ee ss mm bb me cd AA QQ XX hnm hA hP hD fin ls hl
  obtain ⟨zx, zb, hml, hown, hts, hK⟩ := id XX
  have hS : va_S AA ss.heap ss.heap [] := va_S.rf
  have hl : lv_has ls 3 [(0, .ref (m 0)), (1, .int (nI t)), (2, .int z)] := hl
  have htc := inv_tc hI
  refine lv_aload_n zx zb dX12_isOf_0 rfl (lv_at hl 0 rfl) ?_
  refine g_get (v := .ref (m 1)) XX hP 0 0 rfl rfl rfl iwX12 0 (by decide) fl_X12_7 rfl dX12_isOf_1 ?_
  refine lv_iload_n zx zb dX12_isOf_4 rfl (lv_at hl 1 rfl) ?_
  refine lv_bipush (v := nI 6) zx zb dX12_isOf_5 (by decide) ?_
  refine callR_Si (As := [.int (nI t), .int (nI 6)]) (rest := [.ref (m 1)]) XX cs_X12_96 (c_X12_of0 Γ l t 6 ) hP hD hS hA nil_mem nil_D rfl hl.1 rfl ⟨⟨by decide, by decide⟩, by decide, by decide⟩ (Nat.le_of_ble_eq_true rfl) dX12_isOf_7 (fun r_7 H locs hw hP hS => ?_)
  have hw := hw.symm
  subst hw
  refine g_ialdN (i := 55 + 7 * t + 6) XX hP 1 0 rfl rfl (by omega) (by decide) dX12_isOf_10 ?_
  refine g_top (y := bI (yrBr Y t)) (Rel0.t6 hr (by omega)) ?_
  refine lv_if_ne (tgt := 50) zx zb dX12_isOf_11 (by decide) (fun c_11 => ?_) (fun c_11 => ?_)
  · have c_11 : (yrBr Y t) = true := bI_ne c_11
    refine lv_iconst (v := nI 0) zx zb dX12_isOf_50 (by decide) ?_
    exact fin _ _ (nI 0) () 51 _ dX12_isOf_51 (fun _ => nar0) (by first | exact retT (by rw [← runs_eq hI ht]; first | (rw [c_11, c_43]; rfl) | (rw [c_11]; rfl)) | exact retF (by rw [← runs_eq hI ht]; first | (rw [c_11, c_43]; rfl) | (rw [c_11]; rfl))) hP hD hS
  · have c_11 : (yrBr Y t) = false := bI_0.mp c_11
    refine lv_iload_n zx zb dX12_isOf_14 rfl (lv_at hl 2 rfl) ?_
    refine lv_i2l (v := z.toInt64) zx zb dX12_isOf_15 rfl ?_
    refine lv_aload_n zx zb dX12_isOf_16 rfl (lv_at hl 0 rfl) ?_
    refine g_get (v := .ref (m 1)) XX hP 0 0 rfl rfl rfl iwX12 0 (by decide) fl_X12_7 rfl dX12_isOf_17 ?_
    refine lv_iload_n zx zb dX12_isOf_20 rfl (lv_at hl 1 rfl) ?_
    refine lv_iconst (v := nI 3) zx zb dX12_isOf_21 (by decide) ?_
    refine callR_Si (As := [.int (nI t), .int (nI 3)]) (rest := [.ref (m 1), .long z.toInt64]) XX cs_X12_96 (c_X12_of0 Γ l t 3 ) hP hD hS hA nil_mem nil_D rfl hl.1 rfl ⟨⟨by decide, by decide⟩, by decide, by decide⟩ (Nat.le_of_ble_eq_true rfl) dX12_isOf_22 (fun r_22 H locs hw hP hS => ?_)
    have hw := hw.symm
    subst hw
    refine g_ialdN (i := 55 + 7 * t + 3) XX hP 1 0 rfl rfl (by omega) (by decide) dX12_isOf_25 ?_
    refine g_top (y := (tr t).2.2.2.2.1) (Rel0.t3 hr (by omega)) ?_
    refine lv_i2l (v := ((tr t).2.2.2.2.1).toInt64) zx zb dX12_isOf_26 rfl ?_
    refine lv_aload_n zx zb dX12_isOf_27 rfl (lv_at hl 0 rfl) ?_
    refine g_get (v := .ref (m 1)) XX hP 0 0 rfl rfl rfl iwX12 0 (by decide) fl_X12_7 rfl dX12_isOf_28 ?_
    refine lv_iload_n zx zb dX12_isOf_31 rfl (lv_at hl 1 rfl) ?_
    refine lv_iconst (v := nI 4) zx zb dX12_isOf_32 (by decide) ?_
    refine callR_Si (As := [.int (nI t), .int (nI 4)]) (rest := [.ref (m 1), .long (((tr t).2.2.2.2.1).toInt64), .long z.toInt64]) XX cs_X12_96 (c_X12_of0 Γ l t 4 ) hP hD hS hA nil_mem nil_D rfl hl.1 rfl ⟨⟨by decide, by decide⟩, by decide, by decide⟩ (Nat.le_of_ble_eq_true rfl) dX12_isOf_33 (fun r_33 H locs hw hP hS => ?_)
    have hw := hw.symm
    subst hw
    refine g_ialdN (i := 55 + 7 * t + 4) XX hP 1 0 rfl rfl (by omega) (by decide) dX12_isOf_36 ?_
    refine g_top (y := (tr t).2.2.2.2.2.1) (Rel0.t4 hr (by omega)) ?_
    refine lv_iconst (v := nI 1) zx zb dX12_isOf_37 (by decide) ?_
    refine lv_isub zx zb dX12_isOf_38 ?_
    refine g_top (y := ((tr t).2.2.2.2.2.1) - 1) rfl ?_
    refine lv_i2l (v := (((tr t).2.2.2.2.2.1) - 1).toInt64) zx zb dX12_isOf_39 rfl ?_
    refine callR_Si (As := [.long z.toInt64, .long (((tr t).2.2.2.2.1).toInt64), .long ((((tr t).2.2.2.2.2.1) - 1).toInt64)]) (rest := []) XX cs_X12_53 (c_X12_in Γ l z ((tr t).2.2.2.2.1) (((tr t).2.2.2.2.2.1) - 1) ) hP hD hS hA nil_mem nil_D rfl hl.1 rfl ⟨⟨by decide, by decide⟩, by decide, by decide⟩ (Nat.le_of_ble_eq_true rfl) dX12_isOf_40 (fun r_40 H locs hw hP hS => ?_)
    have hw := hw.symm
    subst hw
    refine lv_if_eq (tgt := 50) zx zb dX12_isOf_43 (by decide) (fun c_43 => ?_) (fun c_43 => ?_)
    · have c_43 : (wi z ((tr t).2.2.2.2.1) (((tr t).2.2.2.2.2.1) - 1)) = false := bI_0.mp c_43
      refine lv_iconst (v := nI 0) zx zb dX12_isOf_50 (by decide) ?_
      exact fin _ _ (nI 0) () 51 _ dX12_isOf_51 (fun _ => nar0) (by first | exact retT (by rw [← runs_eq hI ht]; first | (rw [c_11, c_43]; rfl) | (rw [c_11]; rfl)) | exact retF (by rw [← runs_eq hI ht]; first | (rw [c_11, c_43]; rfl) | (rw [c_11]; rfl))) hP hD hS
    · have c_43 : (wi z ((tr t).2.2.2.2.1) (((tr t).2.2.2.2.2.1) - 1)) = true := bI_ne c_43
      refine lv_iconst (v := nI 1) zx zb dX12_isOf_46 (by decide) ?_
      refine lv_goto (tgt := 51) zx zb dX12_isOf_47 (by decide) ?_
      exact fin _ _ (nI 1) () 51 _ dX12_isOf_51 (fun _ => nar1) (by first | exact retT (by rw [← runs_eq hI ht]; first | (rw [c_11, c_43]; rfl) | (rw [c_11]; rfl)) | exact retF (by rw [← runs_eq hI ht]; first | (rw [c_11, c_43]; rfl) | (rw [c_11]; rfl))) hP hD hS

set_option maxHeartbeats 4000000 in
set_option maxRecDepth 100000 in
theorem c0_X12_guardedBy (Γ : GG) (l : Launch) (m : Nat → Nat) (M : MoV) (b : Nat → Int32) (C : CoV) (tr : Nat → TrV) (Y : YrV) (pc : Nat) (P : Nat → YrV) (z : Int32) (q : Int32) (hr : Rel0 b C tr Y pc P) (hI : Inv C tr Y) (hzy : z = Y.1) : Ci Γ l yX12_guardedBy cX12_guardedBy 7 (some (.int)) 2 47 0 0 [.ref (m 0), .int z, .int q] [bMo Γ m M, bA Γ (m 1) 259 b] (fun (r : Int32) (u : Unit) => r = coGuards C tr Y q C.2.2.2.2.2.2.1) (fun (u : Unit) => [bMo Γ m M, bA Γ (m 1) 259 b]) := by
  refine Ci.of (Or.inl rfl) (by decide) (Nat.le_of_ble_eq_true rfl) ?_
  intro pp ee ss mm bb me cd AA QQ XX hnm hA hP hD fin ls hl
  obtain ⟨zx, zb, hml, hown, hts, hK⟩ := id XX
  have hS : va_S AA ss.heap ss.heap [] := va_S.rf
  have hl : lv_has ls 7 [(0, .ref (m 0)), (1, .int z), (2, .int q)] := hl
  have htc := inv_tc hI
  have hdc := inv_dc hI
  have hn := inv_n hI
  subst hzy
  refine lv_iconst (v := nI 0) zx zb dX12_guardedBy_0 (by decide) ?_
  refine lv_istore_n (lv' := [(3, .int (nI 0)), (0, .ref (m 0)), (1, .int Y.1), (2, .int q)]) zx zb dX12_guardedBy_1 rfl hl (by decide) rfl (fun ls hl => ?_)
  refine lv_iconst (v := nI 0) zx zb dX12_guardedBy_2 (by decide) ?_
  refine lv_istore (lv' := [(4, .int (nI 0)), (3, .int (nI 0)), (0, .ref (m 0)), (1, .int Y.1), (2, .int q)]) zx zb dX12_guardedBy_3 hl (by decide) rfl (fun ls hl => ?_)
  have L5 : ∀ (nn : Nat) (t : Nat) (a : Int32), (t ≤ C.2.2.2.2.2.2.1) → (a = coGuards C tr Y q t) → C.2.2.2.2.2.2.1 - t < nn → ∀ (H : Heap) (locs : List Loc), bP Γ [bMo Γ m M, bA Γ (m 1) 259 b] H → bD AA [bMo Γ m M, bA Γ (m 1) 259 b] → va_S AA ss.heap H locs → ∀ (ls : Array Slot), lv_has ls 7 [(0, .ref (m 0)), (1, .int Y.1), (2, .int q), (3, .int a), (4, .int (nI t))] → W pp l ee { frames := 2, cells := 0, slots := 0, locals := 47 } ss mm [.ref (m 0), .int Y.1, .int q].toArray bb me cd H locs 0 0 QQ (F0 mm 5 ls []) := by
    intro nn
    induction nn with
    | zero => intro t a hti ha hm; exact absurd hm (Nat.not_lt_zero _)
    | succ nn ih5 =>
      intro t a hti ha hm5 H locs hP hD hS ls hl
      refine lv_iload zx zb dX12_guardedBy_5 (lv_at hl 4 rfl) ?_
      refine lv_aload_n zx zb dX12_guardedBy_7 rfl (lv_at hl 0 rfl) ?_
      refine g_get (v := .ref (m 1)) XX hP 0 0 rfl rfl rfl iwX12 0 (by decide) fl_X12_7 rfl dX12_guardedBy_8 ?_
      refine lv_iconst (v := nI 4) zx zb dX12_guardedBy_11 (by decide) ?_
      refine g_ialdN (i := 4) XX hP 1 0 rfl rfl (by omega) (by decide) dX12_guardedBy_12 ?_
      refine g_top (y := nI (C.2.2.2.2.2.2.1)) (Rel0.tc hr) ?_
      refine lv_icmp_ge (tgt := 101) zx zb dX12_guardedBy_13 (by decide) (fun c_13 => ?_) (fun c_13 => ?_)
      · have c_13 : C.2.2.2.2.2.2.1 ≤ t := (nI_leI (a := C.2.2.2.2.2.2.1) (b := t) (by omega) (by omega)).mp c_13
        refine lv_iload_n zx zb dX12_guardedBy_101 rfl (lv_at hl 3 rfl) ?_
        exact fin _ _ a () 102 _ dX12_guardedBy_102 (fun h => by cases h) (by have e : t = C.2.2.2.2.2.2.1 := (by omega); subst e; exact ha) hP hD hS
      · have c_13 : ¬ (C.2.2.2.2.2.2.1 ≤ t) := fun h => c_13 ((nI_leI (a := C.2.2.2.2.2.2.1) (b := t) (by omega) (by omega)).mpr h)
        refine lv_aload_n zx zb dX12_guardedBy_16 rfl (lv_at hl 0 rfl) ?_
        refine lv_iload zx zb dX12_guardedBy_17 (lv_at hl 4 rfl) ?_
        refine lv_iload_n zx zb dX12_guardedBy_19 rfl (lv_at hl 1 rfl) ?_
        refine call_Vi (As := [.int (nI t), .int Y.1]) (rest := []) XX cv_X12_190 (c0_X12_isOf Γ l m M b C tr Y pc P t Y.1 (hr) (hI) (by omega)) hP hD hS hA [0, 1] (by decide) rfl (fun _ => rfl) 0 0 rfl rfl rfl rfl hl.1 rfl ⟨⟨by decide, by decide⟩, by decide, by decide⟩ (Nat.le_of_ble_eq_true rfl) dX12_guardedBy_20 (fun r_20 u H locs hw hP hD hS => ?_)
        have hw := hw.symm
        subst hw
        have hP : bP Γ [bMo Γ m M, bA Γ (m 1) 259 b] H := hP
        have hD : bD AA [bMo Γ m M, bA Γ (m 1) 259 b] := hD
        refine lv_if_eq (tgt := 41) zx zb dX12_guardedBy_23 (by decide) (fun c_23 => ?_) (fun c_23 => ?_)
        · have c_23 : (!yrBr Y t && trRuns (tr t) Y.1) = false := bI_0.mp c_23
          refine lv_iconst (v := nI 0) zx zb dX12_guardedBy_41 (by decide) ?_
          refine lv_istore (lv' := [(5, .int (nI 0)), (0, .ref (m 0)), (1, .int Y.1), (2, .int q), (3, .int a), (4, .int (nI t))]) zx zb dX12_guardedBy_42 hl (by decide) rfl (fun ls hl => ?_)
          obtain ⟨a0, b0, f0, u0, ea, eb, hab, hbn, ef, eu, hf0, hu0⟩ := inv_tr hI (show t < C.2.2.2.2.2.2.1 by omega)
          refine lv_aload_n zx zb dX12_guardedBy_44 rfl (lv_at hl 1 rfl) ?_
          refine g_get (v := .ref (m 1)) XX hP 0 0 rfl rfl rfl iwX12 0 (by decide) fl_X12_7 rfl dX12_guardedBy_45 ?_
          refine lv_iload zx zb dX12_guardedBy_48 (lv_at hl 5 rfl) ?_
          refine lv_iconst (v := nI 1) zx zb dX12_guardedBy_50 (by decide) ?_
          refine callR_Si (As := [.int (nI t), .int (nI 1)]) (rest := [.ref (m 1)]) XX cs_X12_96 (c_X12_of0 Γ l t 1 ) hP hD hS hA nil_mem nil_D rfl hl.1 rfl ⟨⟨by decide, by decide⟩, by decide, by decide⟩ (Nat.le_of_ble_eq_true rfl) dX12_guardedBy_51 (fun r_51 H locs hw hP hS => ?_)
          have hw := hw.symm
          subst hw
          refine g_ialdN (i := 55 + 7 * t + 1) XX hP 1 0 rfl rfl (by omega) (by decide) dX12_guardedBy_54 ?_
          refine g_top (y := (tr t).2.2.1) (Rel0.t1 hr (by omega)) ?_
          refine g_top (y := nI a0) (ea) ?_
          refine lv_istore (lv' := [(6, .int (nI a0)), (5, .int (nI 0)), (0, .ref (m 0)), (1, .int Y.1), (2, .int q), (3, .int a), (4, .int (nI t))]) zx zb dX12_guardedBy_55 hl (by decide) rfl (fun ls hl => ?_)
          have L57 : ∀ (nn : Nat) (x1 : Nat) (s1 : Int32), (a0 ≤ x1 ∧ x1 ≤ b0 + 1) → (s1 = a) → b0 + 1 - x1 < nn → ∀ (H : Heap) (locs : List Loc), bP Γ [bMo Γ m M, bA Γ (m 1) 259 b] H → bD AA [bMo Γ m M, bA Γ (m 1) 259 b] → va_S AA ss.heap H locs → ∀ (ls : Array Slot), lv_has ls 7 [(0, .ref (m 0)), (1, .int Y.1), (2, .int q), (3, .int s1), (4, .int (nI t)), (5, .int (nI 0)), (6, .int (nI x1))] → W pp l ee { frames := 2, cells := 0, slots := 0, locals := 47 } ss mm [.ref (m 0), .int Y.1, .int q].toArray bb me cd H locs 0 0 QQ (F0 mm 57 ls []) := by
            intro nn
            induction nn with
            | zero => intro x1 s1 hx hs hm; exact absurd hm (Nat.not_lt_zero _)
            | succ nn ih57 =>
              intro x1 s1 hx hs hm57 H locs hP hD hS ls hl
              refine lv_iload zx zb dX12_guardedBy_57 (lv_at hl 6 rfl) ?_
              refine lv_aload_n zx zb dX12_guardedBy_59 rfl (lv_at hl 0 rfl) ?_
              refine g_get (v := .ref (m 1)) XX hP 0 0 rfl rfl rfl iwX12 0 (by decide) fl_X12_7 rfl dX12_guardedBy_60 ?_
              refine lv_iload zx zb dX12_guardedBy_63 (lv_at hl 4 rfl) ?_
              refine lv_iconst (v := nI 2) zx zb dX12_guardedBy_65 (by decide) ?_
              refine callR_Si (As := [.int (nI t), .int (nI 2)]) (rest := [.ref (m 1), .int (nI x1)]) XX cs_X12_96 (c_X12_of0 Γ l t 2 ) hP hD hS hA nil_mem nil_D rfl hl.1 rfl ⟨⟨by decide, by decide⟩, by decide, by decide⟩ (Nat.le_of_ble_eq_true rfl) dX12_guardedBy_66 (fun r_66 H locs hw hP hS => ?_)
              have hw := hw.symm
              subst hw
              refine g_ialdN (i := 55 + 7 * t + 2) XX hP 1 0 rfl rfl (by omega) (by decide) dX12_guardedBy_69 ?_
              refine g_top (y := (tr t).2.2.2.1) (Rel0.t2 hr (by omega)) ?_
              refine g_top (y := nI b0) (eb) ?_
              refine lv_icmp_gt (tgt := 95) zx zb dX12_guardedBy_70 (by decide) (fun c_70 => ?_) (fun c_70 => ?_)
              · have c_70 : b0 < x1 := (nI_ltI (a := b0) (b := x1) (by omega) (by omega)).mp c_70
                refine lv_iinc (v := nI (t + 1)) (lv' := [(4, .int (nI (t + 1))), (0, .ref (m 0)), (1, .int Y.1), (2, .int q), (3, .int s1), (5, .int (nI 0)), (6, .int (nI x1))]) zx zb dX12_guardedBy_95 hl (k := 4) rfl (nI_inc _ 1) (by decide) rfl (fun ls hl => ?_)
                refine lv_goto (tgt := 5) zx zb dX12_guardedBy_98 (by decide) ?_
                exact ih5 (t + 1) s1 (by omega) (by first | (rw [hs]; exact gu_no ha c_23) | (rw [hs]; exact gu_n2 ha c_34) | (have e : x1 = b0 + 1 := (by omega); subst e; rw [hs]; exact gu_ys ha c_23 c_34 ea eb hab (by omega))) (by omega) _ _ hP hD hS _ (lv_sub hl [1, 2, 3, 4, 0] rfl)
              · have c_70 : ¬ (b0 < x1) := fun h => c_70 ((nI_ltI (a := b0) (b := x1) (by omega) (by omega)).mpr h)
                refine lv_iload_n zx zb dX12_guardedBy_73 rfl (lv_at hl 3 rfl) ?_
                refine lv_iload zx zb dX12_guardedBy_74 (lv_at hl 5 rfl) ?_
                refine lv_if_eq (tgt := 86) zx zb dX12_guardedBy_76 (by decide) (fun c_76 => ?_) (fun c_76 => ?_)
                · clear c_76
                  refine lv_iconst (v := nI 0) zx zb dX12_guardedBy_86 (by decide) ?_
                  refine lv_ior zx zb dX12_guardedBy_87 ?_
                  refine g_top (y := s1 ||| 0) rfl ?_
                  refine lv_istore_n (lv' := [(3, .int (s1 ||| 0)), (0, .ref (m 0)), (1, .int Y.1), (2, .int q), (4, .int (nI t)), (5, .int (nI 0)), (6, .int (nI x1))]) zx zb dX12_guardedBy_88 rfl hl (by decide) rfl (fun ls hl => ?_)
                  refine lv_iinc (v := nI (x1 + 1)) (lv' := [(6, .int (nI (x1 + 1))), (3, .int (s1 ||| 0)), (0, .ref (m 0)), (1, .int Y.1), (2, .int q), (4, .int (nI t)), (5, .int (nI 0))]) zx zb dX12_guardedBy_89 hl (k := 6) rfl (nI_inc _ 1) (by decide) rfl (fun ls hl => ?_)
                  refine lv_goto (tgt := 57) zx zb dX12_guardedBy_92 (by decide) ?_
                  exact ih57 (x1 + 1) (s1 ||| 0) (by omega) (by rw [hs]; first | exact or_range hx.1 | exact or_zero _) (by omega) _ _ hP hD hS _ (lv_sub hl [2, 3, 4, 1, 5, 6, 0] rfl)
                · exact absurd c_76 (by decide)
          exact L57 _ a0 a (by omega) (by first | rfl | (rw [Nat.sub_self]; exact (or_zero _).symm)) (Nat.lt_succ_self _) _ _ hP hD hS _ (lv_sub hl [2, 3, 4, 5, 6, 1, 0] rfl)
        · have c_23 : (!yrBr Y t && trRuns (tr t) Y.1) = true := bI_ne c_23
          refine lv_iload_n zx zb dX12_guardedBy_26 rfl (lv_at hl 2 rfl) ?_
          refine lv_aload_n zx zb dX12_guardedBy_27 rfl (lv_at hl 0 rfl) ?_
          refine lv_iload zx zb dX12_guardedBy_28 (lv_at hl 4 rfl) ?_
          refine lv_iload_n zx zb dX12_guardedBy_30 rfl (lv_at hl 1 rfl) ?_
          refine call_Vi (As := [.int (nI t), .int Y.1]) (rest := [.int q]) XX cv_X12_193 (c0_X12_holds Γ l m M b C tr Y pc P t Y.1 (hr) (hI) (by omega)) hP hD hS hA [0, 1] (by decide) rfl (fun _ => rfl) 0 0 rfl rfl rfl rfl hl.1 rfl ⟨⟨by decide, by decide⟩, by decide, by decide⟩ (Nat.le_of_ble_eq_true rfl) dX12_guardedBy_31 (fun r_31 u H locs hw hP hD hS => ?_)
          have hw := hw.symm
          subst hw
          have hP : bP Γ [bMo Γ m M, bA Γ (m 1) 259 b] H := hP
          have hD : bD AA [bMo Γ m M, bA Γ (m 1) 259 b] := hD
          refine lv_icmp_gt (tgt := 41) zx zb dX12_guardedBy_34 (by decide) (fun c_34 => ?_) (fun c_34 => ?_)
          · have c_34 : (kHolds (tr t).1 (coSpring C Y.1)) < q := c_34
            refine lv_iconst (v := nI 0) zx zb dX12_guardedBy_41 (by decide) ?_
            refine lv_istore (lv' := [(5, .int (nI 0)), (0, .ref (m 0)), (1, .int Y.1), (2, .int q), (3, .int a), (4, .int (nI t))]) zx zb dX12_guardedBy_42 hl (by decide) rfl (fun ls hl => ?_)
            obtain ⟨a0, b0, f0, u0, ea, eb, hab, hbn, ef, eu, hf0, hu0⟩ := inv_tr hI (show t < C.2.2.2.2.2.2.1 by omega)
            refine lv_aload_n zx zb dX12_guardedBy_44 rfl (lv_at hl 1 rfl) ?_
            refine g_get (v := .ref (m 1)) XX hP 0 0 rfl rfl rfl iwX12 0 (by decide) fl_X12_7 rfl dX12_guardedBy_45 ?_
            refine lv_iload zx zb dX12_guardedBy_48 (lv_at hl 5 rfl) ?_
            refine lv_iconst (v := nI 1) zx zb dX12_guardedBy_50 (by decide) ?_
            refine callR_Si (As := [.int (nI t), .int (nI 1)]) (rest := [.ref (m 1)]) XX cs_X12_96 (c_X12_of0 Γ l t 1 ) hP hD hS hA nil_mem nil_D rfl hl.1 rfl ⟨⟨by decide, by decide⟩, by decide, by decide⟩ (Nat.le_of_ble_eq_true rfl) dX12_guardedBy_51 (fun r_51 H locs hw hP hS => ?_)
            have hw := hw.symm
            subst hw
            refine g_ialdN (i := 55 + 7 * t + 1) XX hP 1 0 rfl rfl (by omega) (by decide) dX12_guardedBy_54 ?_
            refine g_top (y := (tr t).2.2.1) (Rel0.t1 hr (by omega)) ?_
            refine g_top (y := nI a0) (ea) ?_
            refine lv_istore (lv' := [(6, .int (nI a0)), (5, .int (nI 0)), (0, .ref (m 0)), (1, .int Y.1), (2, .int q), (3, .int a), (4, .int (nI t))]) zx zb dX12_guardedBy_55 hl (by decide) rfl (fun ls hl => ?_)
            have L57 : ∀ (nn : Nat) (x1 : Nat) (s1 : Int32), (a0 ≤ x1 ∧ x1 ≤ b0 + 1) → (s1 = a) → b0 + 1 - x1 < nn → ∀ (H : Heap) (locs : List Loc), bP Γ [bMo Γ m M, bA Γ (m 1) 259 b] H → bD AA [bMo Γ m M, bA Γ (m 1) 259 b] → va_S AA ss.heap H locs → ∀ (ls : Array Slot), lv_has ls 7 [(0, .ref (m 0)), (1, .int Y.1), (2, .int q), (3, .int s1), (4, .int (nI t)), (5, .int (nI 0)), (6, .int (nI x1))] → W pp l ee { frames := 2, cells := 0, slots := 0, locals := 47 } ss mm [.ref (m 0), .int Y.1, .int q].toArray bb me cd H locs 0 0 QQ (F0 mm 57 ls []) := by
              intro nn
              induction nn with
              | zero => intro x1 s1 hx hs hm; exact absurd hm (Nat.not_lt_zero _)
              | succ nn ih57 =>
                intro x1 s1 hx hs hm57 H locs hP hD hS ls hl
                refine lv_iload zx zb dX12_guardedBy_57 (lv_at hl 6 rfl) ?_
                refine lv_aload_n zx zb dX12_guardedBy_59 rfl (lv_at hl 0 rfl) ?_
                refine g_get (v := .ref (m 1)) XX hP 0 0 rfl rfl rfl iwX12 0 (by decide) fl_X12_7 rfl dX12_guardedBy_60 ?_
                refine lv_iload zx zb dX12_guardedBy_63 (lv_at hl 4 rfl) ?_
                refine lv_iconst (v := nI 2) zx zb dX12_guardedBy_65 (by decide) ?_
                refine callR_Si (As := [.int (nI t), .int (nI 2)]) (rest := [.ref (m 1), .int (nI x1)]) XX cs_X12_96 (c_X12_of0 Γ l t 2 ) hP hD hS hA nil_mem nil_D rfl hl.1 rfl ⟨⟨by decide, by decide⟩, by decide, by decide⟩ (Nat.le_of_ble_eq_true rfl) dX12_guardedBy_66 (fun r_66 H locs hw hP hS => ?_)
                have hw := hw.symm
                subst hw
                refine g_ialdN (i := 55 + 7 * t + 2) XX hP 1 0 rfl rfl (by omega) (by decide) dX12_guardedBy_69 ?_
                refine g_top (y := (tr t).2.2.2.1) (Rel0.t2 hr (by omega)) ?_
                refine g_top (y := nI b0) (eb) ?_
                refine lv_icmp_gt (tgt := 95) zx zb dX12_guardedBy_70 (by decide) (fun c_70 => ?_) (fun c_70 => ?_)
                · have c_70 : b0 < x1 := (nI_ltI (a := b0) (b := x1) (by omega) (by omega)).mp c_70
                  refine lv_iinc (v := nI (t + 1)) (lv' := [(4, .int (nI (t + 1))), (0, .ref (m 0)), (1, .int Y.1), (2, .int q), (3, .int s1), (5, .int (nI 0)), (6, .int (nI x1))]) zx zb dX12_guardedBy_95 hl (k := 4) rfl (nI_inc _ 1) (by decide) rfl (fun ls hl => ?_)
                  refine lv_goto (tgt := 5) zx zb dX12_guardedBy_98 (by decide) ?_
                  exact ih5 (t + 1) s1 (by omega) (by first | (rw [hs]; exact gu_no ha c_23) | (rw [hs]; exact gu_n2 ha c_34) | (have e : x1 = b0 + 1 := (by omega); subst e; rw [hs]; exact gu_ys ha c_23 c_34 ea eb hab (by omega))) (by omega) _ _ hP hD hS _ (lv_sub hl [1, 2, 3, 4, 0] rfl)
                · have c_70 : ¬ (b0 < x1) := fun h => c_70 ((nI_ltI (a := b0) (b := x1) (by omega) (by omega)).mpr h)
                  refine lv_iload_n zx zb dX12_guardedBy_73 rfl (lv_at hl 3 rfl) ?_
                  refine lv_iload zx zb dX12_guardedBy_74 (lv_at hl 5 rfl) ?_
                  refine lv_if_eq (tgt := 86) zx zb dX12_guardedBy_76 (by decide) (fun c_76 => ?_) (fun c_76 => ?_)
                  · clear c_76
                    refine lv_iconst (v := nI 0) zx zb dX12_guardedBy_86 (by decide) ?_
                    refine lv_ior zx zb dX12_guardedBy_87 ?_
                    refine g_top (y := s1 ||| 0) rfl ?_
                    refine lv_istore_n (lv' := [(3, .int (s1 ||| 0)), (0, .ref (m 0)), (1, .int Y.1), (2, .int q), (4, .int (nI t)), (5, .int (nI 0)), (6, .int (nI x1))]) zx zb dX12_guardedBy_88 rfl hl (by decide) rfl (fun ls hl => ?_)
                    refine lv_iinc (v := nI (x1 + 1)) (lv' := [(6, .int (nI (x1 + 1))), (3, .int (s1 ||| 0)), (0, .ref (m 0)), (1, .int Y.1), (2, .int q), (4, .int (nI t)), (5, .int (nI 0))]) zx zb dX12_guardedBy_89 hl (k := 6) rfl (nI_inc _ 1) (by decide) rfl (fun ls hl => ?_)
                    refine lv_goto (tgt := 57) zx zb dX12_guardedBy_92 (by decide) ?_
                    exact ih57 (x1 + 1) (s1 ||| 0) (by omega) (by rw [hs]; first | exact or_range hx.1 | exact or_zero _) (by omega) _ _ hP hD hS _ (lv_sub hl [2, 3, 4, 1, 5, 6, 0] rfl)
                  · exact absurd c_76 (by decide)
            exact L57 _ a0 a (by omega) (by first | rfl | (rw [Nat.sub_self]; exact (or_zero _).symm)) (Nat.lt_succ_self _) _ _ hP hD hS _ (lv_sub hl [2, 3, 4, 5, 6, 1, 0] rfl)
          · have c_34 : ¬ ((kHolds (tr t).1 (coSpring C Y.1)) < q) := c_34
            refine lv_iconst (v := nI 1) zx zb dX12_guardedBy_37 (by decide) ?_
            refine lv_goto (tgt := 42) zx zb dX12_guardedBy_38 (by decide) ?_
            refine lv_istore (lv' := [(5, .int (nI 1)), (0, .ref (m 0)), (1, .int Y.1), (2, .int q), (3, .int a), (4, .int (nI t))]) zx zb dX12_guardedBy_42 hl (by decide) rfl (fun ls hl => ?_)
            obtain ⟨a0, b0, f0, u0, ea, eb, hab, hbn, ef, eu, hf0, hu0⟩ := inv_tr hI (show t < C.2.2.2.2.2.2.1 by omega)
            refine lv_aload_n zx zb dX12_guardedBy_44 rfl (lv_at hl 1 rfl) ?_
            refine g_get (v := .ref (m 1)) XX hP 0 0 rfl rfl rfl iwX12 0 (by decide) fl_X12_7 rfl dX12_guardedBy_45 ?_
            refine lv_iload zx zb dX12_guardedBy_48 (lv_at hl 5 rfl) ?_
            refine lv_iconst (v := nI 1) zx zb dX12_guardedBy_50 (by decide) ?_
            refine callR_Si (As := [.int (nI t), .int (nI 1)]) (rest := [.ref (m 1)]) XX cs_X12_96 (c_X12_of0 Γ l t 1 ) hP hD hS hA nil_mem nil_D rfl hl.1 rfl ⟨⟨by decide, by decide⟩, by decide, by decide⟩ (Nat.le_of_ble_eq_true rfl) dX12_guardedBy_51 (fun r_51 H locs hw hP hS => ?_)
            have hw := hw.symm
            subst hw
            refine g_ialdN (i := 55 + 7 * t + 1) XX hP 1 0 rfl rfl (by omega) (by decide) dX12_guardedBy_54 ?_
            refine g_top (y := (tr t).2.2.1) (Rel0.t1 hr (by omega)) ?_
            refine g_top (y := nI a0) (ea) ?_
            refine lv_istore (lv' := [(6, .int (nI a0)), (5, .int (nI 1)), (0, .ref (m 0)), (1, .int Y.1), (2, .int q), (3, .int a), (4, .int (nI t))]) zx zb dX12_guardedBy_55 hl (by decide) rfl (fun ls hl => ?_)
            have L57 : ∀ (nn : Nat) (x1 : Nat) (s1 : Int32), (a0 ≤ x1 ∧ x1 ≤ b0 + 1) → (s1 = a ||| rangeB a0 (x1 - a0)) → b0 + 1 - x1 < nn → ∀ (H : Heap) (locs : List Loc), bP Γ [bMo Γ m M, bA Γ (m 1) 259 b] H → bD AA [bMo Γ m M, bA Γ (m 1) 259 b] → va_S AA ss.heap H locs → ∀ (ls : Array Slot), lv_has ls 7 [(0, .ref (m 0)), (1, .int Y.1), (2, .int q), (3, .int s1), (4, .int (nI t)), (5, .int (nI 1)), (6, .int (nI x1))] → W pp l ee { frames := 2, cells := 0, slots := 0, locals := 47 } ss mm [.ref (m 0), .int Y.1, .int q].toArray bb me cd H locs 0 0 QQ (F0 mm 57 ls []) := by
              intro nn
              induction nn with
              | zero => intro x1 s1 hx hs hm; exact absurd hm (Nat.not_lt_zero _)
              | succ nn ih57 =>
                intro x1 s1 hx hs hm57 H locs hP hD hS ls hl
                refine lv_iload zx zb dX12_guardedBy_57 (lv_at hl 6 rfl) ?_
                refine lv_aload_n zx zb dX12_guardedBy_59 rfl (lv_at hl 0 rfl) ?_
                refine g_get (v := .ref (m 1)) XX hP 0 0 rfl rfl rfl iwX12 0 (by decide) fl_X12_7 rfl dX12_guardedBy_60 ?_
                refine lv_iload zx zb dX12_guardedBy_63 (lv_at hl 4 rfl) ?_
                refine lv_iconst (v := nI 2) zx zb dX12_guardedBy_65 (by decide) ?_
                refine callR_Si (As := [.int (nI t), .int (nI 2)]) (rest := [.ref (m 1), .int (nI x1)]) XX cs_X12_96 (c_X12_of0 Γ l t 2 ) hP hD hS hA nil_mem nil_D rfl hl.1 rfl ⟨⟨by decide, by decide⟩, by decide, by decide⟩ (Nat.le_of_ble_eq_true rfl) dX12_guardedBy_66 (fun r_66 H locs hw hP hS => ?_)
                have hw := hw.symm
                subst hw
                refine g_ialdN (i := 55 + 7 * t + 2) XX hP 1 0 rfl rfl (by omega) (by decide) dX12_guardedBy_69 ?_
                refine g_top (y := (tr t).2.2.2.1) (Rel0.t2 hr (by omega)) ?_
                refine g_top (y := nI b0) (eb) ?_
                refine lv_icmp_gt (tgt := 95) zx zb dX12_guardedBy_70 (by decide) (fun c_70 => ?_) (fun c_70 => ?_)
                · have c_70 : b0 < x1 := (nI_ltI (a := b0) (b := x1) (by omega) (by omega)).mp c_70
                  refine lv_iinc (v := nI (t + 1)) (lv' := [(4, .int (nI (t + 1))), (0, .ref (m 0)), (1, .int Y.1), (2, .int q), (3, .int s1), (5, .int (nI 1)), (6, .int (nI x1))]) zx zb dX12_guardedBy_95 hl (k := 4) rfl (nI_inc _ 1) (by decide) rfl (fun ls hl => ?_)
                  refine lv_goto (tgt := 5) zx zb dX12_guardedBy_98 (by decide) ?_
                  exact ih5 (t + 1) s1 (by omega) (by first | (rw [hs]; exact gu_no ha c_23) | (rw [hs]; exact gu_n2 ha c_34) | (have e : x1 = b0 + 1 := (by omega); subst e; rw [hs]; exact gu_ys ha c_23 c_34 ea eb hab (by omega))) (by omega) _ _ hP hD hS _ (lv_sub hl [1, 2, 3, 4, 0] rfl)
                · have c_70 : ¬ (b0 < x1) := fun h => c_70 ((nI_ltI (a := b0) (b := x1) (by omega) (by omega)).mpr h)
                  refine lv_iload_n zx zb dX12_guardedBy_73 rfl (lv_at hl 3 rfl) ?_
                  refine lv_iload zx zb dX12_guardedBy_74 (lv_at hl 5 rfl) ?_
                  refine lv_if_eq (tgt := 86) zx zb dX12_guardedBy_76 (by decide) (fun c_76 => ?_) (fun c_76 => ?_)
                  · exact absurd c_76 (by decide)
                  · clear c_76
                    refine lv_iconst (v := nI 1) zx zb dX12_guardedBy_79 (by decide) ?_
                    refine lv_iload zx zb dX12_guardedBy_80 (lv_at hl 6 rfl) ?_
                    refine lv_ishl zx zb dX12_guardedBy_82 ?_
                    refine g_top (y := bit x1) (sh31l _ (by omega)) ?_
                    refine lv_goto (tgt := 87) zx zb dX12_guardedBy_83 (by decide) ?_
                    refine lv_ior zx zb dX12_guardedBy_87 ?_
                    refine lv_istore_n (lv' := [(3, .int (s1 ||| (bit x1))), (0, .ref (m 0)), (1, .int Y.1), (2, .int q), (4, .int (nI t)), (5, .int (nI 1)), (6, .int (nI x1))]) zx zb dX12_guardedBy_88 rfl hl (by decide) rfl (fun ls hl => ?_)
                    refine lv_iinc (v := nI (x1 + 1)) (lv' := [(6, .int (nI (x1 + 1))), (3, .int (s1 ||| (bit x1))), (0, .ref (m 0)), (1, .int Y.1), (2, .int q), (4, .int (nI t)), (5, .int (nI 1))]) zx zb dX12_guardedBy_89 hl (k := 6) rfl (nI_inc _ 1) (by decide) rfl (fun ls hl => ?_)
                    refine lv_goto (tgt := 57) zx zb dX12_guardedBy_92 (by decide) ?_
                    exact ih57 (x1 + 1) (s1 ||| (bit x1)) (by omega) (by rw [hs]; first | exact or_range hx.1 | exact or_zero _) (by omega) _ _ hP hD hS _ (lv_sub hl [2, 3, 4, 1, 5, 6, 0] rfl)
            exact L57 _ a0 a (by omega) (by first | rfl | (rw [Nat.sub_self]; exact (or_zero _).symm)) (Nat.lt_succ_self _) _ _ hP hD hS _ (lv_sub hl [2, 3, 4, 5, 6, 1, 0] rfl)
  exact L5 _ 0 0 (by omega) (rfl) (Nat.lt_succ_self _) _ _ hP hD hS _ (lv_sub hl [2, 3, 4, 1, 0] rfl)

set_option maxHeartbeats 4000000 in
set_option maxRecDepth 100000 in
theorem c0_X12_floods (Γ : GG) (l : Launch) (m : Nat → Nat) (M : MoV) (b : Nat → Int32) (C : CoV) (tr : Nat → TrV) (Y : YrV) (pc : Nat) (P : Nat → YrV) (q : Int32) (g : Int32) (o : Int32) (e1 : Int32) (hr : Rel0 b C tr Y pc P) (hI : Inv C tr Y) (hb : ∀ x, x < C.1 → ∀ t, C.2.2.2.2.1 x = nI t → t < 16 → hasB e1 x = hasB o t) : Ci Γ l yX12_floods cX12_floods 7 (some (.int)) 1 21 0 0 [.ref (m 0), .int q, .int g, .int o] [bMo Γ m M, bA Γ (m 1) 259 b] (fun (r : Int32) (u : Unit) => r = coWater C Y.2.2.2.1 q g e1) (fun (u : Unit) => [bMo Γ m M, bA Γ (m 1) 259 b]) := by
  refine Ci.of (Or.inl rfl) (by decide) (Nat.le_of_ble_eq_true rfl) ?_
  intro pp ee ss mm bb me cd AA QQ XX hnm hA hP hD fin ls hl
  obtain ⟨zx, zb, hml, hown, hts, hK⟩ := id XX
  have hS : va_S AA ss.heap ss.heap [] := va_S.rf
  have hl : lv_has ls 7 [(0, .ref (m 0)), (1, .int q), (2, .int g), (3, .int o)] := hl
  have htc := inv_tc hI
  have hdc := inv_dc hI
  have hn := inv_n hI
  refine lv_iconst (v := nI 0) zx zb dX12_floods_0 (by decide) ?_
  refine lv_istore (lv' := [(4, .int (nI 0)), (0, .ref (m 0)), (1, .int q), (2, .int g), (3, .int o)]) zx zb dX12_floods_1 hl (by decide) rfl (fun ls hl => ?_)
  refine lv_iconst (v := nI 0) zx zb dX12_floods_3 (by decide) ?_
  refine lv_istore (lv' := [(5, .int (nI 0)), (4, .int (nI 0)), (0, .ref (m 0)), (1, .int q), (2, .int g), (3, .int o)]) zx zb dX12_floods_4 hl (by decide) rfl (fun ls hl => ?_)
  have L6 : ∀ (nn : Nat) (x1 : Nat) (a : Int32), (x1 ≤ C.1) → (∀ j, j < x1 → coStop C Y.2.2.2.1 q g e1 j = false) → (a = preB x1) → C.1 - x1 < nn → ∀ (H : Heap) (locs : List Loc), bP Γ [bMo Γ m M, bA Γ (m 1) 259 b] H → bD AA [bMo Γ m M, bA Γ (m 1) 259 b] → va_S AA ss.heap H locs → ∀ (ls : Array Slot), lv_has ls 7 [(0, .ref (m 0)), (1, .int q), (2, .int g), (3, .int o), (4, .int a), (5, .int (nI x1))] → W pp l ee { frames := 1, cells := 0, slots := 0, locals := 21 } ss mm [.ref (m 0), .int q, .int g, .int o].toArray bb me cd H locs 0 0 QQ (F0 mm 6 ls []) := by
    intro nn
    induction nn with
    | zero => intro x1 a hx hs ha hm; exact absurd hm (Nat.not_lt_zero _)
    | succ nn ih6 =>
      intro x1 a hx hs ha hm6 H locs hP hD hS ls hl
      refine lv_iload zx zb dX12_floods_6 (lv_at hl 5 rfl) ?_
      refine lv_aload_n zx zb dX12_floods_8 rfl (lv_at hl 0 rfl) ?_
      refine g_get (v := .ref (m 1)) XX hP 0 0 rfl rfl rfl iwX12 0 (by decide) fl_X12_7 rfl dX12_floods_9 ?_
      refine lv_iconst (v := nI 0) zx zb dX12_floods_12 (by decide) ?_
      refine g_ialdN (i := 0) XX hP 1 0 rfl rfl (by omega) (by decide) dX12_floods_13 ?_
      refine g_top (y := nI (C.1)) (Rel0.n hr) ?_
      refine lv_icmp_ge (tgt := 99) zx zb dX12_floods_14 (by decide) (fun c_14 => ?_) (fun c_14 => ?_)
      · have c_14 : C.1 ≤ x1 := (nI_leI (a := C.1) (b := x1) (by omega) (by omega)).mp c_14
        refine lv_iload zx zb dX12_floods_99 (lv_at hl 4 rfl) ?_
        exact fin _ _ a () 101 _ dX12_floods_101 (fun h => by cases h) (by have e : x1 = C.1 := (by omega); subst e; rw [ha]; unfold coWater; rw [firstN_eq hs (Or.inr rfl)]) hP hD hS
      · have c_14 : ¬ (C.1 ≤ x1) := fun h => c_14 ((nI_leI (a := C.1) (b := x1) (by omega) (by omega)).mpr h)
        obtain ⟨t1, et, ht1⟩ := inv_tn hI (show x1 < 8 by omega)
        have hbx := hb x1 (by omega) t1 et (by omega)
        refine lv_iload_n zx zb dX12_floods_17 rfl (lv_at hl 3 rfl) ?_
        refine lv_aload_n zx zb dX12_floods_18 rfl (lv_at hl 0 rfl) ?_
        refine g_get (v := .ref (m 1)) XX hP 0 0 rfl rfl rfl iwX12 0 (by decide) fl_X12_7 rfl dX12_floods_19 ?_
        refine lv_iload zx zb dX12_floods_22 (lv_at hl 5 rfl) ?_
        refine lv_iconst (v := nI 2) zx zb dX12_floods_24 (by decide) ?_
        refine callR_Si (As := [.int (nI x1), .int (nI 2)]) (rest := [.ref (m 1), .int o]) XX cs_X12_73 (c_X12_at Γ l x1 2 ) hP hD hS hA nil_mem nil_D rfl hl.1 rfl ⟨⟨by decide, by decide⟩, by decide, by decide⟩ (Nat.le_of_ble_eq_true rfl) dX12_floods_25 (fun r_25 H locs hw hP hS => ?_)
        have hw := hw.symm
        subst hw
        refine g_ialdN (i := 15 + 5 * x1 + 2) XX hP 1 0 rfl rfl (by omega) (by decide) dX12_floods_28 ?_
        refine g_top (y := C.2.2.2.2.1 x1) (Rel0.c2 hr (by omega)) ?_
        refine g_top (y := nI t1) (et) ?_
        refine lv_ishr zx zb dX12_floods_29 ?_
        refine g_top (y := o >>> (nI t1)) (sh31r _ (by omega)) ?_
        refine lv_iconst (v := nI 1) zx zb dX12_floods_30 (by decide) ?_
        refine lv_iand zx zb dX12_floods_31 ?_
        refine g_top (y := (o >>> (nI t1)) &&& 1) rfl ?_
        refine lv_iconst (v := nI 1) zx zb dX12_floods_32 (by decide) ?_
        refine lv_icmp_ne (tgt := 40) zx zb dX12_floods_33 (by decide) (fun c_33 => ?_) (fun c_33 => ?_)
        · have c_33 : hasB o t1 = false := shrBf (by omega) c_33
          refine lv_aload_n zx zb dX12_floods_40 rfl (lv_at hl 0 rfl) ?_
          refine g_get (v := .ref (m 1)) XX hP 0 0 rfl rfl rfl iwX12 0 (by decide) fl_X12_7 rfl dX12_floods_41 ?_
          refine lv_iload zx zb dX12_floods_44 (lv_at hl 5 rfl) ?_
          refine lv_iconst (v := nI 3) zx zb dX12_floods_46 (by decide) ?_
          refine callR_Si (As := [.int (nI x1), .int (nI 3)]) (rest := [.ref (m 1)]) XX cs_X12_73 (c_X12_at Γ l x1 3 ) hP hD hS hA nil_mem nil_D rfl hl.1 rfl ⟨⟨by decide, by decide⟩, by decide, by decide⟩ (Nat.le_of_ble_eq_true rfl) dX12_floods_47 (fun r_47 H locs hw hP hS => ?_)
          have hw := hw.symm
          subst hw
          refine g_ialdN (i := 15 + 5 * x1 + 3) XX hP 1 0 rfl rfl (by omega) (by decide) dX12_floods_50 ?_
          refine g_top (y := Y.2.2.2.1 x1) (Rel0.c3 hr (by omega)) ?_
          refine lv_istore (lv' := [(6, .int (Y.2.2.2.1 x1)), (0, .ref (m 0)), (1, .int q), (2, .int g), (3, .int o), (4, .int a), (5, .int (nI x1))]) zx zb dX12_floods_51 hl (by decide) rfl (fun ls hl => ?_)
          refine lv_iload_n zx zb dX12_floods_53 rfl (lv_at hl 2 rfl) ?_
          refine lv_aload_n zx zb dX12_floods_54 rfl (lv_at hl 1 rfl) ?_
          refine g_get (v := .ref (m 1)) XX hP 0 0 rfl rfl rfl iwX12 0 (by decide) fl_X12_7 rfl dX12_floods_55 ?_
          refine lv_iload zx zb dX12_floods_58 (lv_at hl 6 rfl) ?_
          refine lv_iconst (v := nI 0) zx zb dX12_floods_60 (by decide) ?_
          refine callR_Si (As := [.int (nI x1), .int (nI 0)]) (rest := [.ref (m 1), .int q]) XX cs_X12_73 (c_X12_at Γ l x1 0 ) hP hD hS hA nil_mem nil_D rfl hl.1 rfl ⟨⟨by decide, by decide⟩, by decide, by decide⟩ (Nat.le_of_ble_eq_true rfl) dX12_floods_61 (fun r_61 H locs hw hP hS => ?_)
          have hw := hw.symm
          subst hw
          refine g_ialdN (i := 15 + 5 * x1 + 0) XX hP 1 0 rfl rfl (by omega) (by decide) dX12_floods_64 ?_
          refine g_top (y := C.2.2.1 x1) (Rel0.c0 hr (by omega)) ?_
          refine lv_iload zx zb dX12_floods_65 (lv_at hl 0 rfl) ?_
          refine lv_iadd zx zb dX12_floods_67 ?_
          refine lv_icmp_le (tgt := 81) zx zb dX12_floods_68 (by decide) (fun c_68 => ?_) (fun c_68 => ?_)
          · have c_68 : q ≤ ((C.2.2.1 x1) + (Y.2.2.2.1 x1)) := c_68
            refine lv_iload zx zb dX12_floods_81 (lv_at hl 5 rfl) ?_
            exact fin _ _ a () 83 _ dX12_floods_83 (fun h => by cases h) (by rw [ha]; unfold coWater; first | exact (congrArg preB (firstN_eq hs (Or.inl ⟨show x1 < C.1 by omega, wet_a (hbx.trans c_33) c_68⟩))).symm | exact (congrArg preB (firstN_eq hs (Or.inl ⟨show x1 < C.1 by omega, wet_b (hbx.trans c_33) c_68⟩))).symm | exact (congrArg preB (firstN_eq hs (Or.inl ⟨show x1 < C.1 by omega, wet_c c_78⟩))).symm) hP hD hS
          · have c_68 : ¬ (q ≤ ((C.2.2.1 x1) + (Y.2.2.2.1 x1))) := c_68
            refine lv_iload_n zx zb dX12_floods_71 rfl (lv_at hl 3 rfl) ?_
            refine lv_iload zx zb dX12_floods_72 (lv_at hl 6 rfl) ?_
            refine lv_ishr zx zb dX12_floods_74 ?_
            refine g_top (y := g >>> (nI x1)) (sh31r _ (by omega)) ?_
            refine lv_iconst (v := nI 1) zx zb dX12_floods_75 (by decide) ?_
            refine lv_iand zx zb dX12_floods_76 ?_
            refine g_top (y := (g >>> (nI x1)) &&& 1) rfl ?_
            refine lv_iconst (v := nI 1) zx zb dX12_floods_77 (by decide) ?_
            refine lv_icmp_ne (tgt := 84) zx zb dX12_floods_78 (by decide) (fun c_78 => ?_) (fun c_78 => ?_)
            · have c_78 : hasB g x1 = false := shrBf (by omega) c_78
              refine lv_iload zx zb dX12_floods_84 (lv_at hl 5 rfl) ?_
              refine lv_iconst (v := nI 1) zx zb dX12_floods_86 (by decide) ?_
              refine lv_iload zx zb dX12_floods_87 (lv_at hl 6 rfl) ?_
              refine lv_ishl zx zb dX12_floods_89 ?_
              refine g_top (y := bit x1) (sh31l _ (by omega)) ?_
              refine lv_ior zx zb dX12_floods_90 ?_
              refine lv_istore (lv' := [(4, .int (a ||| (bit x1))), (6, .int (Y.2.2.2.1 x1)), (0, .ref (m 0)), (1, .int q), (2, .int g), (3, .int o), (5, .int (nI x1))]) zx zb dX12_floods_91 hl (by decide) rfl (fun ls hl => ?_)
              refine lv_iinc (v := nI (x1 + 1)) (lv' := [(5, .int (nI (x1 + 1))), (4, .int (a ||| (bit x1))), (6, .int (Y.2.2.2.1 x1)), (0, .ref (m 0)), (1, .int q), (2, .int g), (3, .int o)]) zx zb dX12_floods_93 hl (k := 6) rfl (nI_inc _ 1) (by decide) rfl (fun ls hl => ?_)
              refine lv_goto (tgt := 6) zx zb dX12_floods_96 (by decide) ?_
              exact ih6 (x1 + 1) (a ||| (bit x1)) (by omega) (lt_s hs (by first | exact dry_a (hbx.trans c_33) c_68 c_78 | exact dry_b (hbx.trans c_33) c_68 c_78)) (by rw [preB, ← ha]) (by omega) _ _ hP hD hS _ (lv_sub hl [3, 4, 5, 6, 1, 0] rfl)
            · have c_78 : hasB g x1 = true := (shrB (by omega)).mp c_78
              refine lv_iload zx zb dX12_floods_81 (lv_at hl 5 rfl) ?_
              exact fin _ _ a () 83 _ dX12_floods_83 (fun h => by cases h) (by rw [ha]; unfold coWater; first | exact (congrArg preB (firstN_eq hs (Or.inl ⟨show x1 < C.1 by omega, wet_a (hbx.trans c_33) c_68⟩))).symm | exact (congrArg preB (firstN_eq hs (Or.inl ⟨show x1 < C.1 by omega, wet_b (hbx.trans c_33) c_68⟩))).symm | exact (congrArg preB (firstN_eq hs (Or.inl ⟨show x1 < C.1 by omega, wet_c c_78⟩))).symm) hP hD hS
        · have c_33 : hasB o t1 = true := (shrB (by omega)).mp c_33
          refine lv_iconst (v := nI 0) zx zb dX12_floods_36 (by decide) ?_
          refine lv_goto (tgt := 51) zx zb dX12_floods_37 (by decide) ?_
          refine lv_istore (lv' := [(6, .int (nI 0)), (0, .ref (m 0)), (1, .int q), (2, .int g), (3, .int o), (4, .int a), (5, .int (nI x1))]) zx zb dX12_floods_51 hl (by decide) rfl (fun ls hl => ?_)
          refine lv_iload_n zx zb dX12_floods_53 rfl (lv_at hl 2 rfl) ?_
          refine lv_aload_n zx zb dX12_floods_54 rfl (lv_at hl 1 rfl) ?_
          refine g_get (v := .ref (m 1)) XX hP 0 0 rfl rfl rfl iwX12 0 (by decide) fl_X12_7 rfl dX12_floods_55 ?_
          refine lv_iload zx zb dX12_floods_58 (lv_at hl 6 rfl) ?_
          refine lv_iconst (v := nI 0) zx zb dX12_floods_60 (by decide) ?_
          refine callR_Si (As := [.int (nI x1), .int (nI 0)]) (rest := [.ref (m 1), .int q]) XX cs_X12_73 (c_X12_at Γ l x1 0 ) hP hD hS hA nil_mem nil_D rfl hl.1 rfl ⟨⟨by decide, by decide⟩, by decide, by decide⟩ (Nat.le_of_ble_eq_true rfl) dX12_floods_61 (fun r_61 H locs hw hP hS => ?_)
          have hw := hw.symm
          subst hw
          refine g_ialdN (i := 15 + 5 * x1 + 0) XX hP 1 0 rfl rfl (by omega) (by decide) dX12_floods_64 ?_
          refine g_top (y := C.2.2.1 x1) (Rel0.c0 hr (by omega)) ?_
          refine lv_iload zx zb dX12_floods_65 (lv_at hl 0 rfl) ?_
          refine lv_iadd zx zb dX12_floods_67 ?_
          refine g_top (y := (C.2.2.1 x1) + 0) rfl ?_
          refine lv_icmp_le (tgt := 81) zx zb dX12_floods_68 (by decide) (fun c_68 => ?_) (fun c_68 => ?_)
          · have c_68 : q ≤ ((C.2.2.1 x1) + 0) := c_68
            refine lv_iload zx zb dX12_floods_81 (lv_at hl 5 rfl) ?_
            exact fin _ _ a () 83 _ dX12_floods_83 (fun h => by cases h) (by rw [ha]; unfold coWater; first | exact (congrArg preB (firstN_eq hs (Or.inl ⟨show x1 < C.1 by omega, wet_a (hbx.trans c_33) c_68⟩))).symm | exact (congrArg preB (firstN_eq hs (Or.inl ⟨show x1 < C.1 by omega, wet_b (hbx.trans c_33) c_68⟩))).symm | exact (congrArg preB (firstN_eq hs (Or.inl ⟨show x1 < C.1 by omega, wet_c c_78⟩))).symm) hP hD hS
          · have c_68 : ¬ (q ≤ ((C.2.2.1 x1) + 0)) := c_68
            refine lv_iload_n zx zb dX12_floods_71 rfl (lv_at hl 3 rfl) ?_
            refine lv_iload zx zb dX12_floods_72 (lv_at hl 6 rfl) ?_
            refine lv_ishr zx zb dX12_floods_74 ?_
            refine g_top (y := g >>> (nI x1)) (sh31r _ (by omega)) ?_
            refine lv_iconst (v := nI 1) zx zb dX12_floods_75 (by decide) ?_
            refine lv_iand zx zb dX12_floods_76 ?_
            refine g_top (y := (g >>> (nI x1)) &&& 1) rfl ?_
            refine lv_iconst (v := nI 1) zx zb dX12_floods_77 (by decide) ?_
            refine lv_icmp_ne (tgt := 84) zx zb dX12_floods_78 (by decide) (fun c_78 => ?_) (fun c_78 => ?_)
            · have c_78 : hasB g x1 = false := shrBf (by omega) c_78
              refine lv_iload zx zb dX12_floods_84 (lv_at hl 5 rfl) ?_
              refine lv_iconst (v := nI 1) zx zb dX12_floods_86 (by decide) ?_
              refine lv_iload zx zb dX12_floods_87 (lv_at hl 6 rfl) ?_
              refine lv_ishl zx zb dX12_floods_89 ?_
              refine g_top (y := bit x1) (sh31l _ (by omega)) ?_
              refine lv_ior zx zb dX12_floods_90 ?_
              refine lv_istore (lv' := [(4, .int (a ||| (bit x1))), (6, .int (nI 0)), (0, .ref (m 0)), (1, .int q), (2, .int g), (3, .int o), (5, .int (nI x1))]) zx zb dX12_floods_91 hl (by decide) rfl (fun ls hl => ?_)
              refine lv_iinc (v := nI (x1 + 1)) (lv' := [(5, .int (nI (x1 + 1))), (4, .int (a ||| (bit x1))), (6, .int (nI 0)), (0, .ref (m 0)), (1, .int q), (2, .int g), (3, .int o)]) zx zb dX12_floods_93 hl (k := 6) rfl (nI_inc _ 1) (by decide) rfl (fun ls hl => ?_)
              refine lv_goto (tgt := 6) zx zb dX12_floods_96 (by decide) ?_
              exact ih6 (x1 + 1) (a ||| (bit x1)) (by omega) (lt_s hs (by first | exact dry_a (hbx.trans c_33) c_68 c_78 | exact dry_b (hbx.trans c_33) c_68 c_78)) (by rw [preB, ← ha]) (by omega) _ _ hP hD hS _ (lv_sub hl [3, 4, 5, 6, 1, 0] rfl)
            · have c_78 : hasB g x1 = true := (shrB (by omega)).mp c_78
              refine lv_iload zx zb dX12_floods_81 (lv_at hl 5 rfl) ?_
              exact fin _ _ a () 83 _ dX12_floods_83 (fun h => by cases h) (by rw [ha]; unfold coWater; first | exact (congrArg preB (firstN_eq hs (Or.inl ⟨show x1 < C.1 by omega, wet_a (hbx.trans c_33) c_68⟩))).symm | exact (congrArg preB (firstN_eq hs (Or.inl ⟨show x1 < C.1 by omega, wet_b (hbx.trans c_33) c_68⟩))).symm | exact (congrArg preB (firstN_eq hs (Or.inl ⟨show x1 < C.1 by omega, wet_c c_78⟩))).symm) hP hD hS
  exact L6 _ 0 0 (by omega) (lt_0) (rfl) (Nat.lt_succ_self _) _ _ hP hD hS _ (lv_sub hl [2, 3, 4, 5, 1, 0] rfl)

set_option maxHeartbeats 4000000 in
set_option maxRecDepth 100000 in
theorem c0_X12_isLost (Γ : GG) (l : Launch) (m : Nat → Nat) (M : MoV) (b : Nat → Int32) (C : CoV) (tr : Nat → TrV) (Y : YrV) (pc : Nat) (P : Nat → YrV) (x : Nat) (hr : Rel0 b C tr Y pc P) (hx : x < 8) : Ci Γ l yX12_isLost cX12_isLost 2 (some (.boolean)) 1 21 0 0 [.ref (m 0), .int (nI x)] [bMo Γ m M, bA Γ (m 1) 259 b] (fun (r : Int32) (u : Unit) => r = bI (yrLost Y x)) (fun (u : Unit) => [bMo Γ m M, bA Γ (m 1) 259 b]) := by
  refine Ci.of (Or.inr rfl) (by decide) (Nat.le_of_ble_eq_true rfl) ?_
  intro pp ee ss mm bb me cd AA QQ XX hnm hA hP hD fin ls hl
  obtain ⟨zx, zb, hml, hown, hts, hK⟩ := id XX
  have hS : va_S AA ss.heap ss.heap [] := va_S.rf
  have hl : lv_has ls 2 [(0, .ref (m 0)), (1, .int (nI x))] := hl
  refine lv_aload_n zx zb dX12_isLost_0 rfl (lv_at hl 0 rfl) ?_
  refine g_get (v := .ref (m 1)) XX hP 0 0 rfl rfl rfl iwX12 0 (by decide) fl_X12_7 rfl dX12_isLost_1 ?_
  refine lv_iload_n zx zb dX12_isLost_4 rfl (lv_at hl 1 rfl) ?_
  refine lv_iconst (v := nI 4) zx zb dX12_isLost_5 (by decide) ?_
  refine callR_Si (As := [.int (nI x), .int (nI 4)]) (rest := [.ref (m 1)]) XX cs_X12_73 (c_X12_at Γ l x 4 ) hP hD hS hA nil_mem nil_D rfl hl.1 rfl ⟨⟨by decide, by decide⟩, by decide, by decide⟩ (Nat.le_of_ble_eq_true rfl) dX12_isLost_6 (fun r_6 H locs hw hP hS => ?_)
  have hw := hw.symm
  subst hw
  refine g_ialdN (i := 15 + 5 * x + 4) XX hP 1 0 rfl rfl (by omega) (by decide) dX12_isLost_9 ?_
  refine g_top (y := Y.2.2.2.2 x) (Rel0.c4 hr (by omega)) ?_
  refine lv_iconst (v := nI 3) zx zb dX12_isLost_10 (by decide) ?_
  refine lv_icmp_lt (tgt := 18) zx zb dX12_isLost_11 (by decide) (fun c_11 => ?_) (fun c_11 => ?_)
  · have c_11 : (Y.2.2.2.2 x) < (3 : Int32) := c_11
    refine lv_iconst (v := nI 0) zx zb dX12_isLost_18 (by decide) ?_
    exact fin _ _ (nI 0) () 19 _ dX12_isLost_19 (fun _ => nar0) (by first | exact retT (by simpa [yrLost] using c_11) | exact retF (by simpa [yrLost] using c_11)) hP hD hS
  · have c_11 : ¬ ((Y.2.2.2.2 x) < (3 : Int32)) := c_11
    refine lv_iconst (v := nI 1) zx zb dX12_isLost_14 (by decide) ?_
    refine lv_goto (tgt := 19) zx zb dX12_isLost_15 (by decide) ?_
    exact fin _ _ (nI 1) () 19 _ dX12_isLost_19 (fun _ => nar1) (by first | exact retT (by simpa [yrLost] using c_11) | exact retF (by simpa [yrLost] using c_11)) hP hD hS

set_option maxHeartbeats 4000000 in
set_option maxRecDepth 100000 in
theorem c0_X12_goes (Γ : GG) (l : Launch) (m : Nat → Nat) (M : MoV) (b : Nat → Int32) (C : CoV) (tr : Nat → TrV) (Y : YrV) (pc : Nat) (P : Nat → YrV) (q : Int32) (hr : Rel0 b C tr Y pc P) (hI : Inv C tr Y) : Ci Γ l yX12_goes cX12_goes 6 (some (.int)) 3 73 0 0 [.ref (m 0), .int q] [bMo Γ m M, bA Γ (m 1) 259 b] (fun (r : Int32) (u : Nat → Int32) => r = coFl C tr Y q ∧ Rel0 u C tr (coYear C tr Y q) pc P) (fun (u : Nat → Int32) => [bMo Γ m M, bA Γ (m 1) 259 u]) := by
  refine Ci.of (Or.inl rfl) (by decide) (Nat.le_of_ble_eq_true rfl) ?_
  intro pp ee ss mm bb me cd AA QQ XX hnm hA hP hD fin ls hl
  obtain ⟨zx, zb, hml, hown, hts, hK⟩ := id XX
  have hS : va_S AA ss.heap ss.heap [] := va_S.rf
  have hl : lv_has ls 6 [(0, .ref (m 0)), (1, .int q)] := hl
  have htc := inv_tc hI
  have hdc := inv_dc hI
  have hn := inv_n hI
  refine lv_aload_n zx zb dX12_goes_0 rfl (lv_at hl 0 rfl) ?_
  refine g_get (v := .ref (m 1)) XX hP 0 0 rfl rfl rfl iwX12 0 (by decide) fl_X12_7 rfl dX12_goes_1 ?_
  refine lv_iconst (v := nI 1) zx zb dX12_goes_4 (by decide) ?_
  refine g_ialdN (i := 1) XX hP 1 0 rfl rfl (by omega) (by decide) dX12_goes_5 ?_
  refine g_top (y := Y.1) (Rel0.y hr) ?_
  refine lv_istore_n (lv' := [(2, .int Y.1), (0, .ref (m 0)), (1, .int q)]) zx zb dX12_goes_6 rfl hl (by decide) rfl (fun ls hl => ?_)
  refine lv_iconst (v := nI 0) zx zb dX12_goes_7 (by decide) ?_
  refine lv_istore_n (lv' := [(3, .int (nI 0)), (2, .int Y.1), (0, .ref (m 0)), (1, .int q)]) zx zb dX12_goes_8 rfl hl (by decide) rfl (fun ls hl => ?_)
  have L9 : ∀ (nn : Nat) (t : Nat) (b1 : Nat → Int32) (Z : YrV), (t ≤ C.2.2.2.2.2.2.1) → (Rel0 b1 C tr Z pc P) → (Z = coPay tr Y t) → (Z.1 = Y.1) → C.2.2.2.2.2.2.1 - t < nn → ∀ (H : Heap) (locs : List Loc), bP Γ [bMo Γ m M, bA Γ (m 1) 259 b1] H → bD AA [bMo Γ m M, bA Γ (m 1) 259 b1] → va_S AA ss.heap H locs → ∀ (ls : Array Slot), lv_has ls 6 [(0, .ref (m 0)), (1, .int q), (2, .int Y.1), (3, .int (nI t))] → W pp l ee { frames := 3, cells := 0, slots := 0, locals := 73 } ss mm [.ref (m 0), .int q].toArray bb me cd H locs 0 0 QQ (F0 mm 9 ls []) := by
    intro nn
    induction nn with
    | zero => intro t b1 Z hti hr1 hZ hZy hm; exact absurd hm (Nat.not_lt_zero _)
    | succ nn ih9 =>
      intro t b1 Z hti hr1 hZ hZy hm9 H locs hP hD hS ls hl
      have hIZ := inv_cong hI hZy
      refine lv_iload_n zx zb dX12_goes_9 rfl (lv_at hl 3 rfl) ?_
      refine lv_aload_n zx zb dX12_goes_10 rfl (lv_at hl 0 rfl) ?_
      refine g_get (v := .ref (m 1)) XX hP 0 0 rfl rfl rfl iwX12 0 (by decide) fl_X12_7 rfl dX12_goes_11 ?_
      refine lv_iconst (v := nI 4) zx zb dX12_goes_14 (by decide) ?_
      refine g_ialdN (i := 4) XX hP 1 0 rfl rfl (by omega) (by decide) dX12_goes_15 ?_
      refine g_top (y := nI (C.2.2.2.2.2.2.1)) (Rel0.tc hr1) ?_
      refine lv_icmp_ge (tgt := 95) zx zb dX12_goes_16 (by decide) (fun c_16 => ?_) (fun c_16 => ?_)
      · have c_16 : C.2.2.2.2.2.2.1 ≤ t := (nI_leI (a := C.2.2.2.2.2.2.1) (b := t) (by omega) (by omega)).mp c_16
        have et : t = C.2.2.2.2.2.2.1 := by omega
        subst et
        refine lv_aload_n zx zb dX12_goes_95 rfl (lv_at hl 0 rfl) ?_
        refine lv_iload_n zx zb dX12_goes_96 rfl (lv_at hl 1 rfl) ?_
        refine lv_aload_n zx zb dX12_goes_97 rfl (lv_at hl 0 rfl) ?_
        refine lv_iload_n zx zb dX12_goes_98 rfl (lv_at hl 2 rfl) ?_
        refine lv_iload_n zx zb dX12_goes_99 rfl (lv_at hl 1 rfl) ?_
        refine call_Vi (As := [.int Y.1, .int q]) (rest := [.int q, .ref (m 0)]) XX cv_X12_199 (c0_X12_guardedBy Γ l m M b1 C tr Z pc P Y.1 q (hr1) (hIZ) (hZy.symm)) hP hD hS hA [0, 1] (by decide) rfl (fun _ => rfl) 0 0 rfl rfl rfl rfl hl.1 rfl ⟨⟨by decide, by decide⟩, by decide, by decide⟩ (Nat.le_of_ble_eq_true rfl) dX12_goes_100 (fun r_100 u H locs hw hP hD hS => ?_)
        have hw := hw.symm
        subst hw
        have hP : bP Γ [bMo Γ m M, bA Γ (m 1) 259 b1] H := hP
        have hD : bD AA [bMo Γ m M, bA Γ (m 1) 259 b1] := hD
        refine lv_iconst (v := nI 0) zx zb dX12_goes_103 (by decide) ?_
        refine call_Vi (As := [.int q, .int (coGuards C tr Z q C.2.2.2.2.2.2.1), .int (nI 0)]) (rest := []) XX cv_X12_202 (c0_X12_floods Γ l m M b1 C tr Z pc P q (coGuards C tr Z q C.2.2.2.2.2.2.1) 0 0 (hr1) (hIZ) (fun x _ t _ _ => by rw [hasB_0, hasB_0])) hP hD hS hA [0, 1] (by decide) rfl (fun _ => rfl) 0 0 rfl rfl rfl rfl hl.1 rfl ⟨⟨by decide, by decide⟩, by decide, by decide⟩ (Nat.le_of_ble_eq_true rfl) dX12_goes_104 (fun r_104 u H locs hw hP hD hS => ?_)
        have hw := hw.symm
        subst hw
        have hP : bP Γ [bMo Γ m M, bA Γ (m 1) 259 b1] H := hP
        have hD : bD AA [bMo Γ m M, bA Γ (m 1) 259 b1] := hD
        refine g_top (y := coFl C tr Y q) (by rw [hZ]; rfl) ?_
        refine lv_istore_n (lv' := [(3, .int (coFl C tr Y q)), (0, .ref (m 0)), (1, .int q), (2, .int Y.1)]) zx zb dX12_goes_107 rfl hl (by decide) rfl (fun ls hl => ?_)
        refine lv_iconst (v := nI 0) zx zb dX12_goes_108 (by decide) ?_
        refine lv_istore (lv' := [(4, .int (nI 0)), (3, .int (coFl C tr Y q)), (0, .ref (m 0)), (1, .int q), (2, .int Y.1)]) zx zb dX12_goes_109 hl (by decide) rfl (fun ls hl => ?_)
        have L111 : ∀ (nn : Nat) (x1 : Nat) (b2 : Nat → Int32) (Z2 : YrV), (x1 ≤ C.1) → (Rel0 b2 C tr Z2 pc P) → (Z2 = runB (coRun C (coFl C tr Y q) (coPay tr Y (coTc C)) x1)) → C.1 - x1 < nn → ∀ (H : Heap) (locs : List Loc), bP Γ [bMo Γ m M, bA Γ (m 1) 259 b2] H → bD AA [bMo Γ m M, bA Γ (m 1) 259 b2] → va_S AA ss.heap H locs → ∀ (ls : Array Slot), lv_has ls 6 [(0, .ref (m 0)), (3, .int (coFl C tr Y q)), (4, .int (nI x1))] → W pp l ee { frames := 3, cells := 0, slots := 0, locals := 73 } ss mm [.ref (m 0), .int q].toArray bb me cd H locs 0 0 QQ (F0 mm 111 ls []) := by
          intro nn
          induction nn with
          | zero => intro x1 b2 Z2 hx hr1 hZ2 hm; exact absurd hm (Nat.not_lt_zero _)
          | succ nn ih111 =>
            intro x1 b2 Z2 hx hr1 hZ2 hm111 H locs hP hD hS ls hl
            refine lv_iload zx zb dX12_goes_111 (lv_at hl 2 rfl) ?_
            refine lv_aload_n zx zb dX12_goes_113 rfl (lv_at hl 0 rfl) ?_
            refine g_get (v := .ref (m 1)) XX hP 0 0 rfl rfl rfl iwX12 0 (by decide) fl_X12_7 rfl dX12_goes_114 ?_
            refine lv_iconst (v := nI 0) zx zb dX12_goes_117 (by decide) ?_
            refine g_ialdN (i := 0) XX hP 1 0 rfl rfl (by omega) (by decide) dX12_goes_118 ?_
            refine g_top (y := nI (C.1)) (Rel0.n hr1) ?_
            refine lv_icmp_ge (tgt := 248) zx zb dX12_goes_119 (by decide) (fun c_119 => ?_) (fun c_119 => ?_)
            · have c_119 : C.1 ≤ x1 := (nI_leI (a := C.1) (b := x1) (by omega) (by omega)).mp c_119
              refine lv_aload_n zx zb dX12_goes_248 rfl (lv_at hl 0 rfl) ?_
              refine g_get (v := .ref (m 1)) XX hP 0 0 rfl rfl rfl iwX12 0 (by decide) fl_X12_7 rfl dX12_goes_249 ?_
              refine lv_iconst (v := nI 2) zx zb dX12_goes_252 (by decide) ?_
              refine lv_sipush (v := nI 999) zx zb dX12_goes_253 (by decide) ?_
              refine lv_aload_n zx zb dX12_goes_256 rfl (lv_at hl 0 rfl) ?_
              refine g_get (v := .ref (m 1)) XX hP 0 0 rfl rfl rfl iwX12 0 (by decide) fl_X12_7 rfl dX12_goes_257 ?_
              refine lv_iconst (v := nI 2) zx zb dX12_goes_260 (by decide) ?_
              refine g_ialdN (i := 2) XX hP 1 0 rfl rfl (by omega) (by decide) dX12_goes_261 ?_
              refine g_top (y := Z2.2.1) (Rel0.be hr1) ?_
              refine callR_Si (As := [.int (nI 999), .int Z2.2.1]) (rest := [.int (nI 2), .ref (m 1)]) XX cs_X12_209 (c_X12_lesser Γ l 999 Z2.2.1 ) hP hD hS hA nil_mem nil_D rfl hl.1 rfl ⟨⟨by decide, by decide⟩, by decide, by decide⟩ (Nat.le_of_ble_eq_true rfl) dX12_goes_262 (fun r_262 H locs hw hP hS => ?_)
              have hw := hw.symm
              subst hw
              refine g_iastN (x := imin Z2.2.1 999) (i := 2) (blk' := bA Γ (m 1) 259 (upd b2 2 (imin Z2.2.1 999))) (bs' := [bMo Γ m M, bA Γ (m 1) 259 (upd b2 2 (imin Z2.2.1 999))]) XX hP hD hS 1 0 rfl rfl (by omega) (by decide) rfl rfl dX12_goes_265 (fun H locs hP hD hS => ?_)
              have hr1 := Rel0_bells (v := imin Z2.2.1 999) hr1 htc hdc
              generalize upd b2 2 (imin Z2.2.1 999) = b_265 at hP hD hr1
              obtain ⟨Y_265, eY_265⟩ : ∃ Zq_ : YrV, Zq_ = (Z2.1, imin Z2.2.1 999, Z2.2.2) := ⟨_, rfl⟩
              rw [← eY_265] at hr1
              refine lv_aload_n zx zb dX12_goes_266 rfl (lv_at hl 0 rfl) ?_
              refine g_get (v := .ref (m 1)) XX hP 0 0 rfl rfl rfl iwX12 0 (by decide) fl_X12_7 rfl dX12_goes_267 ?_
              refine lv_iconst (v := nI 1) zx zb dX12_goes_270 (by decide) ?_
              refine lv_dup2_11 zx zb dX12_goes_271 rfl rfl ?_
              refine g_ialdN (i := 1) XX hP 1 0 rfl rfl (by omega) (by decide) dX12_goes_272 ?_
              refine g_top (y := Y_265.1) (Rel0.y hr1) ?_
              refine lv_iconst (v := nI 1) zx zb dX12_goes_273 (by decide) ?_
              refine lv_iadd zx zb dX12_goes_274 ?_
              refine g_top (y := Y_265.1 + 1) rfl ?_
              refine g_iastN (x := Y_265.1 + 1) (i := 1) (blk' := bA Γ (m 1) 259 (upd b_265 1 (Y_265.1 + 1))) (bs' := [bMo Γ m M, bA Γ (m 1) 259 (upd b_265 1 (Y_265.1 + 1))]) XX hP hD hS 1 0 rfl rfl (by omega) (by decide) rfl rfl dX12_goes_275 (fun H locs hP hD hS => ?_)
              have hr1 := Rel0_year (v := Y_265.1 + 1) hr1 htc hdc
              generalize upd b_265 1 (Y_265.1 + 1) = b_275 at hP hD hr1
              obtain ⟨Y_275, eY_275⟩ : ∃ Zq_ : YrV, Zq_ = (Y_265.1 + 1, Y_265.2) := ⟨_, rfl⟩
              rw [← eY_275] at hr1
              refine lv_iload_n zx zb dX12_goes_276 rfl (lv_at hl 1 rfl) ?_
              exact fin _ _ (coFl C tr Y q) b_275 277 _ dX12_goes_277 (fun h => by cases h) (⟨rfl, by have ex : x1 = C.1 := (by omega); subst ex; rw [← goes_end hZ2 eY_265 eY_275]; exact hr1⟩) hP hD hS
            · have c_119 : ¬ (C.1 ≤ x1) := fun h => c_119 ((nI_leI (a := C.1) (b := x1) (by omega) (by omega)).mpr h)
              refine lv_iload_n zx zb dX12_goes_122 rfl (lv_at hl 1 rfl) ?_
              refine lv_iload zx zb dX12_goes_123 (lv_at hl 2 rfl) ?_
              refine lv_ishr zx zb dX12_goes_125 ?_
              refine g_top (y := (coFl C tr Y q) >>> (nI x1)) (sh31r _ (by omega)) ?_
              refine lv_iconst (v := nI 1) zx zb dX12_goes_126 (by decide) ?_
              refine lv_iand zx zb dX12_goes_127 ?_
              refine g_top (y := ((coFl C tr Y q) >>> (nI x1)) &&& 1) rfl ?_
              refine lv_iconst (v := nI 1) zx zb dX12_goes_128 (by decide) ?_
              refine lv_icmp_ne (tgt := 136) zx zb dX12_goes_129 (by decide) (fun c_129 => ?_) (fun c_129 => ?_)
              · have c_129 : hasB (coFl C tr Y q) x1 = false := shrBf (by omega) c_129
                refine lv_iconst (v := nI 0) zx zb dX12_goes_136 (by decide) ?_
                refine lv_istore (lv' := [(5, .int (nI 0)), (0, .ref (m 0)), (3, .int (coFl C tr Y q)), (4, .int (nI x1))]) zx zb dX12_goes_137 hl (by decide) rfl (fun ls hl => ?_)
                refine lv_aload_n zx zb dX12_goes_139 rfl (lv_at hl 1 rfl) ?_
                refine g_get (v := .ref (m 1)) XX hP 0 0 rfl rfl rfl iwX12 0 (by decide) fl_X12_7 rfl dX12_goes_140 ?_
                refine lv_iload zx zb dX12_goes_143 (lv_at hl 3 rfl) ?_
                refine lv_iconst (v := nI 4) zx zb dX12_goes_145 (by decide) ?_
                refine callR_Si (As := [.int (nI x1), .int (nI 4)]) (rest := [.ref (m 1)]) XX cs_X12_73 (c_X12_at Γ l x1 4 ) hP hD hS hA nil_mem nil_D rfl hl.1 rfl ⟨⟨by decide, by decide⟩, by decide, by decide⟩ (Nat.le_of_ble_eq_true rfl) dX12_goes_146 (fun r_146 H locs hw hP hS => ?_)
                have hw := hw.symm
                subst hw
                refine lv_dup2_11 zx zb dX12_goes_149 rfl rfl ?_
                refine g_ialdN (i := 15 + 5 * x1 + 4) XX hP 1 0 rfl rfl (by omega) (by decide) dX12_goes_150 ?_
                refine g_top (y := Z2.2.2.2.2 x1) (Rel0.c4 hr1 (by omega)) ?_
                refine lv_iload zx zb dX12_goes_151 (lv_at hl 0 rfl) ?_
                refine lv_if_eq (tgt := 160) zx zb dX12_goes_153 (by decide) (fun c_153 => ?_) (fun c_153 => ?_)
                · clear c_153
                  refine lv_iconst (v := nI 0) zx zb dX12_goes_160 (by decide) ?_
                  refine lv_iadd zx zb dX12_goes_161 ?_
                  refine g_top (y := (Z2.2.2.2.2 x1) + 0) rfl ?_
                  refine g_iastN (x := (Z2.2.2.2.2 x1) + 0) (i := 15 + 5 * x1 + 4) (blk' := bA Γ (m 1) 259 (upd b2 (15 + 5 * x1 + 4) ((Z2.2.2.2.2 x1) + 0))) (bs' := [bMo Γ m M, bA Γ (m 1) 259 (upd b2 (15 + 5 * x1 + 4) ((Z2.2.2.2.2 x1) + 0))]) XX hP hD hS 1 0 rfl rfl (by omega) (by decide) rfl rfl dX12_goes_162 (fun H locs hP hD hS => ?_)
                  have hr1 := Rel0_fl (v := (Z2.2.2.2.2 x1) + 0) hr1 htc hdc (show x1 < 8 by omega)
                  generalize upd b2 (15 + 5 * x1 + 4) ((Z2.2.2.2.2 x1) + 0) = b_162 at hP hD hr1
                  obtain ⟨Y_162, eY_162⟩ : ∃ Zq_ : YrV, Zq_ = (Z2.1, Z2.2.1, Z2.2.2.1, Z2.2.2.2.1, upd Z2.2.2.2.2 x1 ((Z2.2.2.2.2 x1) + 0)) := ⟨_, rfl⟩
                  rw [← eY_162] at hr1
                  refine lv_aload_n zx zb dX12_goes_163 rfl (lv_at hl 1 rfl) ?_
                  refine g_get (v := .ref (m 1)) XX hP 0 0 rfl rfl rfl iwX12 0 (by decide) fl_X12_7 rfl dX12_goes_164 ?_
                  refine lv_iload zx zb dX12_goes_167 (lv_at hl 3 rfl) ?_
                  refine lv_iconst (v := nI 3) zx zb dX12_goes_169 (by decide) ?_
                  refine callR_Si (As := [.int (nI x1), .int (nI 3)]) (rest := [.ref (m 1)]) XX cs_X12_73 (c_X12_at Γ l x1 3 ) hP hD hS hA nil_mem nil_D rfl hl.1 rfl ⟨⟨by decide, by decide⟩, by decide, by decide⟩ (Nat.le_of_ble_eq_true rfl) dX12_goes_170 (fun r_170 H locs hw hP hS => ?_)
                  have hw := hw.symm
                  subst hw
                  refine lv_dup2_11 zx zb dX12_goes_173 rfl rfl ?_
                  refine g_ialdN (i := 15 + 5 * x1 + 3) XX hP 1 0 rfl rfl (by omega) (by decide) dX12_goes_174 ?_
                  refine g_top (y := Y_162.2.2.2.1 x1) (Rel0.c3 hr1 (by omega)) ?_
                  refine lv_iload zx zb dX12_goes_175 (lv_at hl 0 rfl) ?_
                  refine lv_if_eq (tgt := 198) zx zb dX12_goes_177 (by decide) (fun c_177 => ?_) (fun c_177 => ?_)
                  · clear c_177
                    refine lv_iconst (v := nI 0) zx zb dX12_goes_198 (by decide) ?_
                    refine lv_isub zx zb dX12_goes_199 ?_
                    refine g_top (y := (Y_162.2.2.2.1 x1) - 0) rfl ?_
                    refine g_iastN (x := (Y_162.2.2.2.1 x1) - 0) (i := 15 + 5 * x1 + 3) (blk' := bA Γ (m 1) 259 (upd b_162 (15 + 5 * x1 + 3) ((Y_162.2.2.2.1 x1) - 0))) (bs' := [bMo Γ m M, bA Γ (m 1) 259 (upd b_162 (15 + 5 * x1 + 3) ((Y_162.2.2.2.1 x1) - 0))]) XX hP hD hS 1 0 rfl rfl (by omega) (by decide) rfl rfl dX12_goes_200 (fun H locs hP hD hS => ?_)
                    have hr1 := Rel0_dike (v := (Y_162.2.2.2.1 x1) - 0) hr1 htc hdc (show x1 < 8 by omega)
                    generalize upd b_162 (15 + 5 * x1 + 3) ((Y_162.2.2.2.1 x1) - 0) = b_200 at hP hD hr1
                    obtain ⟨Y_200, eY_200⟩ : ∃ Zq_ : YrV, Zq_ = (Y_162.1, Y_162.2.1, Y_162.2.2.1, upd Y_162.2.2.2.1 x1 ((Y_162.2.2.2.1 x1) - 0), Y_162.2.2.2.2) := ⟨_, rfl⟩
                    rw [← eY_200] at hr1
                    refine lv_aload_n zx zb dX12_goes_201 rfl (lv_at hl 1 rfl) ?_
                    refine g_get (v := .ref (m 1)) XX hP 0 0 rfl rfl rfl iwX12 0 (by decide) fl_X12_7 rfl dX12_goes_202 ?_
                    refine lv_iconst (v := nI 2) zx zb dX12_goes_205 (by decide) ?_
                    refine lv_dup2_11 zx zb dX12_goes_206 rfl rfl ?_
                    refine g_ialdN (i := 2) XX hP 1 0 rfl rfl (by omega) (by decide) dX12_goes_207 ?_
                    refine g_top (y := Y_200.2.1) (Rel0.be hr1) ?_
                    refine lv_iload zx zb dX12_goes_208 (lv_at hl 0 rfl) ?_
                    refine lv_if_ne (tgt := 222) zx zb dX12_goes_210 (by decide) (fun c_210 => ?_) (fun c_210 => ?_)
                    · exact absurd c_210 (by decide)
                    · clear c_210
                      refine lv_aload_n zx zb dX12_goes_213 rfl (lv_at hl 1 rfl) ?_
                      refine lv_iload zx zb dX12_goes_214 (lv_at hl 3 rfl) ?_
                      refine call_Vi (As := [.int (nI x1)]) (rest := [.int Y_200.2.1, .int (nI 2), .ref (m 1)]) XX cv_X12_206 (c0_X12_isLost Γ l m M b_200 C tr Y_200 pc P x1 (hr1) (by omega)) hP hD hS hA [0, 1] (by decide) rfl (fun _ => rfl) 0 0 rfl rfl rfl rfl hl.1 rfl ⟨⟨by decide, by decide⟩, by decide, by decide⟩ (Nat.le_of_ble_eq_true rfl) dX12_goes_216 (fun r_216 u H locs hw hP hD hS => ?_)
                      have hw := hw.symm
                      subst hw
                      have hP : bP Γ [bMo Γ m M, bA Γ (m 1) 259 b_200] H := hP
                      have hD : bD AA [bMo Γ m M, bA Γ (m 1) 259 b_200] := hD
                      refine lv_if_eq (tgt := 226) zx zb dX12_goes_219 (by decide) (fun c_219 => ?_) (fun c_219 => ?_)
                      · have c_219 : (yrLost Y_200 x1) = false := bI_0.mp c_219
                        refine lv_aload_n zx zb dX12_goes_226 rfl (lv_at hl 1 rfl) ?_
                        refine g_get (v := .ref (m 1)) XX hP 0 0 rfl rfl rfl iwX12 0 (by decide) fl_X12_7 rfl dX12_goes_227 ?_
                        refine lv_iload zx zb dX12_goes_230 (lv_at hl 3 rfl) ?_
                        refine lv_iconst (v := nI 1) zx zb dX12_goes_232 (by decide) ?_
                        refine callR_Si (As := [.int (nI x1), .int (nI 1)]) (rest := [.ref (m 1), .int Y_200.2.1, .int (nI 2), .ref (m 1)]) XX cs_X12_73 (c_X12_at Γ l x1 1 ) hP hD hS hA nil_mem nil_D rfl hl.1 rfl ⟨⟨by decide, by decide⟩, by decide, by decide⟩ (Nat.le_of_ble_eq_true rfl) dX12_goes_233 (fun r_233 H locs hw hP hS => ?_)
                        have hw := hw.symm
                        subst hw
                        refine g_ialdN (i := 15 + 5 * x1 + 1) XX hP 1 0 rfl rfl (by omega) (by decide) dX12_goes_236 ?_
                        refine g_top (y := C.2.2.2.1 x1) (Rel0.c1 hr1 (by omega)) ?_
                        refine lv_bipush (v := nI 10) zx zb dX12_goes_237 (by decide) ?_
                        refine lv_idiv zx zb dX12_goes_239 (by decide) ?_
                        refine g_top (y := (C.2.2.2.1 x1) / 10) rfl ?_
                        refine lv_iadd zx zb dX12_goes_240 ?_
                        refine g_iastN (x := Y_200.2.1 + ((C.2.2.2.1 x1) / 10)) (i := 2) (blk' := bA Γ (m 1) 259 (upd b_200 2 (Y_200.2.1 + ((C.2.2.2.1 x1) / 10)))) (bs' := [bMo Γ m M, bA Γ (m 1) 259 (upd b_200 2 (Y_200.2.1 + ((C.2.2.2.1 x1) / 10)))]) XX hP hD hS 1 0 rfl rfl (by omega) (by decide) rfl rfl dX12_goes_241 (fun H locs hP hD hS => ?_)
                        have hr1 := Rel0_bells (v := Y_200.2.1 + ((C.2.2.2.1 x1) / 10)) hr1 htc hdc
                        generalize upd b_200 2 (Y_200.2.1 + ((C.2.2.2.1 x1) / 10)) = b_241 at hP hD hr1
                        obtain ⟨Y_241, eY_241⟩ : ∃ Zq_ : YrV, Zq_ = (Y_200.1, Y_200.2.1 + ((C.2.2.2.1 x1) / 10), Y_200.2.2) := ⟨_, rfl⟩
                        rw [← eY_241] at hr1
                        refine lv_iinc (v := nI (x1 + 1)) (lv' := [(4, .int (nI (x1 + 1))), (5, .int (nI 0)), (0, .ref (m 0)), (3, .int (coFl C tr Y q))]) zx zb dX12_goes_242 hl (k := 3) rfl (nI_inc _ 1) (by decide) rfl (fun ls hl => ?_)
                        refine lv_goto (tgt := 111) zx zb dX12_goes_245 (by decide) ?_
                        exact ih111 (x1 + 1) b_241 Y_241 (by omega) (hr1) (by first | exact run_wet hZ2 c_129 eY_162 (Or.inl ⟨Int32.not_le.mp c_191, eY_200⟩) eY_241 | exact run_wet hZ2 c_129 eY_162 (Or.inr ⟨Int32.not_lt.mpr c_191, eY_200⟩) eY_241 | exact run_dry hZ2 c_129 eY_162 eY_200 (Or.inl ⟨c_219, eY_241⟩) | exact run_dry hZ2 c_129 eY_162 eY_200 (Or.inr ⟨c_219, eY_241⟩)) (by omega) _ _ hP hD hS _ (lv_sub hl [2, 3, 0] rfl)
                      · have c_219 : (yrLost Y_200 x1) = true := bI_ne c_219
                        refine lv_iconst (v := nI 0) zx zb dX12_goes_222 (by decide) ?_
                        refine lv_goto (tgt := 240) zx zb dX12_goes_223 (by decide) ?_
                        refine lv_iadd zx zb dX12_goes_240 ?_
                        refine g_top (y := Y_200.2.1 + 0) rfl ?_
                        refine g_iastN (x := Y_200.2.1 + 0) (i := 2) (blk' := bA Γ (m 1) 259 (upd b_200 2 (Y_200.2.1 + 0))) (bs' := [bMo Γ m M, bA Γ (m 1) 259 (upd b_200 2 (Y_200.2.1 + 0))]) XX hP hD hS 1 0 rfl rfl (by omega) (by decide) rfl rfl dX12_goes_241 (fun H locs hP hD hS => ?_)
                        have hr1 := Rel0_bells (v := Y_200.2.1 + 0) hr1 htc hdc
                        generalize upd b_200 2 (Y_200.2.1 + 0) = b_241 at hP hD hr1
                        obtain ⟨Y_241, eY_241⟩ : ∃ Zq_ : YrV, Zq_ = (Y_200.1, Y_200.2.1 + 0, Y_200.2.2) := ⟨_, rfl⟩
                        rw [← eY_241] at hr1
                        refine lv_iinc (v := nI (x1 + 1)) (lv' := [(4, .int (nI (x1 + 1))), (5, .int (nI 0)), (0, .ref (m 0)), (3, .int (coFl C tr Y q))]) zx zb dX12_goes_242 hl (k := 3) rfl (nI_inc _ 1) (by decide) rfl (fun ls hl => ?_)
                        refine lv_goto (tgt := 111) zx zb dX12_goes_245 (by decide) ?_
                        exact ih111 (x1 + 1) b_241 Y_241 (by omega) (hr1) (by first | exact run_wet hZ2 c_129 eY_162 (Or.inl ⟨Int32.not_le.mp c_191, eY_200⟩) eY_241 | exact run_wet hZ2 c_129 eY_162 (Or.inr ⟨Int32.not_lt.mpr c_191, eY_200⟩) eY_241 | exact run_dry hZ2 c_129 eY_162 eY_200 (Or.inl ⟨c_219, eY_241⟩) | exact run_dry hZ2 c_129 eY_162 eY_200 (Or.inr ⟨c_219, eY_241⟩)) (by omega) _ _ hP hD hS _ (lv_sub hl [2, 3, 0] rfl)
                  · exact absurd c_177 (by decide)
                · exact absurd c_153 (by decide)
              · have c_129 : hasB (coFl C tr Y q) x1 = true := (shrB (by omega)).mp c_129
                refine lv_iconst (v := nI 1) zx zb dX12_goes_132 (by decide) ?_
                refine lv_goto (tgt := 137) zx zb dX12_goes_133 (by decide) ?_
                refine lv_istore (lv' := [(5, .int (nI 1)), (0, .ref (m 0)), (3, .int (coFl C tr Y q)), (4, .int (nI x1))]) zx zb dX12_goes_137 hl (by decide) rfl (fun ls hl => ?_)
                refine lv_aload_n zx zb dX12_goes_139 rfl (lv_at hl 1 rfl) ?_
                refine g_get (v := .ref (m 1)) XX hP 0 0 rfl rfl rfl iwX12 0 (by decide) fl_X12_7 rfl dX12_goes_140 ?_
                refine lv_iload zx zb dX12_goes_143 (lv_at hl 3 rfl) ?_
                refine lv_iconst (v := nI 4) zx zb dX12_goes_145 (by decide) ?_
                refine callR_Si (As := [.int (nI x1), .int (nI 4)]) (rest := [.ref (m 1)]) XX cs_X12_73 (c_X12_at Γ l x1 4 ) hP hD hS hA nil_mem nil_D rfl hl.1 rfl ⟨⟨by decide, by decide⟩, by decide, by decide⟩ (Nat.le_of_ble_eq_true rfl) dX12_goes_146 (fun r_146 H locs hw hP hS => ?_)
                have hw := hw.symm
                subst hw
                refine lv_dup2_11 zx zb dX12_goes_149 rfl rfl ?_
                refine g_ialdN (i := 15 + 5 * x1 + 4) XX hP 1 0 rfl rfl (by omega) (by decide) dX12_goes_150 ?_
                refine g_top (y := Z2.2.2.2.2 x1) (Rel0.c4 hr1 (by omega)) ?_
                refine lv_iload zx zb dX12_goes_151 (lv_at hl 0 rfl) ?_
                refine lv_if_eq (tgt := 160) zx zb dX12_goes_153 (by decide) (fun c_153 => ?_) (fun c_153 => ?_)
                · exact absurd c_153 (by decide)
                · clear c_153
                  refine lv_iconst (v := nI 1) zx zb dX12_goes_156 (by decide) ?_
                  refine lv_goto (tgt := 161) zx zb dX12_goes_157 (by decide) ?_
                  refine lv_iadd zx zb dX12_goes_161 ?_
                  refine g_top (y := (Z2.2.2.2.2 x1) + 1) rfl ?_
                  refine g_iastN (x := (Z2.2.2.2.2 x1) + 1) (i := 15 + 5 * x1 + 4) (blk' := bA Γ (m 1) 259 (upd b2 (15 + 5 * x1 + 4) ((Z2.2.2.2.2 x1) + 1))) (bs' := [bMo Γ m M, bA Γ (m 1) 259 (upd b2 (15 + 5 * x1 + 4) ((Z2.2.2.2.2 x1) + 1))]) XX hP hD hS 1 0 rfl rfl (by omega) (by decide) rfl rfl dX12_goes_162 (fun H locs hP hD hS => ?_)
                  have hr1 := Rel0_fl (v := (Z2.2.2.2.2 x1) + 1) hr1 htc hdc (show x1 < 8 by omega)
                  generalize upd b2 (15 + 5 * x1 + 4) ((Z2.2.2.2.2 x1) + 1) = b_162 at hP hD hr1
                  obtain ⟨Y_162, eY_162⟩ : ∃ Zq_ : YrV, Zq_ = (Z2.1, Z2.2.1, Z2.2.2.1, Z2.2.2.2.1, upd Z2.2.2.2.2 x1 ((Z2.2.2.2.2 x1) + 1)) := ⟨_, rfl⟩
                  rw [← eY_162] at hr1
                  refine lv_aload_n zx zb dX12_goes_163 rfl (lv_at hl 1 rfl) ?_
                  refine g_get (v := .ref (m 1)) XX hP 0 0 rfl rfl rfl iwX12 0 (by decide) fl_X12_7 rfl dX12_goes_164 ?_
                  refine lv_iload zx zb dX12_goes_167 (lv_at hl 3 rfl) ?_
                  refine lv_iconst (v := nI 3) zx zb dX12_goes_169 (by decide) ?_
                  refine callR_Si (As := [.int (nI x1), .int (nI 3)]) (rest := [.ref (m 1)]) XX cs_X12_73 (c_X12_at Γ l x1 3 ) hP hD hS hA nil_mem nil_D rfl hl.1 rfl ⟨⟨by decide, by decide⟩, by decide, by decide⟩ (Nat.le_of_ble_eq_true rfl) dX12_goes_170 (fun r_170 H locs hw hP hS => ?_)
                  have hw := hw.symm
                  subst hw
                  refine lv_dup2_11 zx zb dX12_goes_173 rfl rfl ?_
                  refine g_ialdN (i := 15 + 5 * x1 + 3) XX hP 1 0 rfl rfl (by omega) (by decide) dX12_goes_174 ?_
                  refine g_top (y := Y_162.2.2.2.1 x1) (Rel0.c3 hr1 (by omega)) ?_
                  refine lv_iload zx zb dX12_goes_175 (lv_at hl 0 rfl) ?_
                  refine lv_if_eq (tgt := 198) zx zb dX12_goes_177 (by decide) (fun c_177 => ?_) (fun c_177 => ?_)
                  · exact absurd c_177 (by decide)
                  · clear c_177
                    refine lv_aload_n zx zb dX12_goes_180 rfl (lv_at hl 1 rfl) ?_
                    refine g_get (v := .ref (m 1)) XX hP 0 0 rfl rfl rfl iwX12 0 (by decide) fl_X12_7 rfl dX12_goes_181 ?_
                    refine lv_iload zx zb dX12_goes_184 (lv_at hl 3 rfl) ?_
                    refine lv_iconst (v := nI 3) zx zb dX12_goes_186 (by decide) ?_
                    refine callR_Si (As := [.int (nI x1), .int (nI 3)]) (rest := [.ref (m 1), .int (Y_162.2.2.2.1 x1), .int (nI (15 + 5 * x1 + 3)), .ref (m 1)]) XX cs_X12_73 (c_X12_at Γ l x1 3 ) hP hD hS hA nil_mem nil_D rfl hl.1 rfl ⟨⟨by decide, by decide⟩, by decide, by decide⟩ (Nat.le_of_ble_eq_true rfl) dX12_goes_187 (fun r_187 H locs hw hP hS => ?_)
                    have hw := hw.symm
                    subst hw
                    refine g_ialdN (i := 15 + 5 * x1 + 3) XX hP 1 0 rfl rfl (by omega) (by decide) dX12_goes_190 ?_
                    refine g_top (y := Y_162.2.2.2.1 x1) (Rel0.c3 hr1 (by omega)) ?_
                    refine lv_if_le (tgt := 198) zx zb dX12_goes_191 (by decide) (fun c_191 => ?_) (fun c_191 => ?_)
                    · have c_191 : (Y_162.2.2.2.1 x1) ≤ (0 : Int32) := c_191
                      refine lv_iconst (v := nI 0) zx zb dX12_goes_198 (by decide) ?_
                      refine lv_isub zx zb dX12_goes_199 ?_
                      refine g_top (y := (Y_162.2.2.2.1 x1) - 0) rfl ?_
                      refine g_iastN (x := (Y_162.2.2.2.1 x1) - 0) (i := 15 + 5 * x1 + 3) (blk' := bA Γ (m 1) 259 (upd b_162 (15 + 5 * x1 + 3) ((Y_162.2.2.2.1 x1) - 0))) (bs' := [bMo Γ m M, bA Γ (m 1) 259 (upd b_162 (15 + 5 * x1 + 3) ((Y_162.2.2.2.1 x1) - 0))]) XX hP hD hS 1 0 rfl rfl (by omega) (by decide) rfl rfl dX12_goes_200 (fun H locs hP hD hS => ?_)
                      have hr1 := Rel0_dike (v := (Y_162.2.2.2.1 x1) - 0) hr1 htc hdc (show x1 < 8 by omega)
                      generalize upd b_162 (15 + 5 * x1 + 3) ((Y_162.2.2.2.1 x1) - 0) = b_200 at hP hD hr1
                      obtain ⟨Y_200, eY_200⟩ : ∃ Zq_ : YrV, Zq_ = (Y_162.1, Y_162.2.1, Y_162.2.2.1, upd Y_162.2.2.2.1 x1 ((Y_162.2.2.2.1 x1) - 0), Y_162.2.2.2.2) := ⟨_, rfl⟩
                      rw [← eY_200] at hr1
                      refine lv_aload_n zx zb dX12_goes_201 rfl (lv_at hl 1 rfl) ?_
                      refine g_get (v := .ref (m 1)) XX hP 0 0 rfl rfl rfl iwX12 0 (by decide) fl_X12_7 rfl dX12_goes_202 ?_
                      refine lv_iconst (v := nI 2) zx zb dX12_goes_205 (by decide) ?_
                      refine lv_dup2_11 zx zb dX12_goes_206 rfl rfl ?_
                      refine g_ialdN (i := 2) XX hP 1 0 rfl rfl (by omega) (by decide) dX12_goes_207 ?_
                      refine g_top (y := Y_200.2.1) (Rel0.be hr1) ?_
                      refine lv_iload zx zb dX12_goes_208 (lv_at hl 0 rfl) ?_
                      refine lv_if_ne (tgt := 222) zx zb dX12_goes_210 (by decide) (fun c_210 => ?_) (fun c_210 => ?_)
                      · clear c_210
                        refine lv_iconst (v := nI 0) zx zb dX12_goes_222 (by decide) ?_
                        refine lv_goto (tgt := 240) zx zb dX12_goes_223 (by decide) ?_
                        refine lv_iadd zx zb dX12_goes_240 ?_
                        refine g_top (y := Y_200.2.1 + 0) rfl ?_
                        refine g_iastN (x := Y_200.2.1 + 0) (i := 2) (blk' := bA Γ (m 1) 259 (upd b_200 2 (Y_200.2.1 + 0))) (bs' := [bMo Γ m M, bA Γ (m 1) 259 (upd b_200 2 (Y_200.2.1 + 0))]) XX hP hD hS 1 0 rfl rfl (by omega) (by decide) rfl rfl dX12_goes_241 (fun H locs hP hD hS => ?_)
                        have hr1 := Rel0_bells (v := Y_200.2.1 + 0) hr1 htc hdc
                        generalize upd b_200 2 (Y_200.2.1 + 0) = b_241 at hP hD hr1
                        obtain ⟨Y_241, eY_241⟩ : ∃ Zq_ : YrV, Zq_ = (Y_200.1, Y_200.2.1 + 0, Y_200.2.2) := ⟨_, rfl⟩
                        rw [← eY_241] at hr1
                        refine lv_iinc (v := nI (x1 + 1)) (lv' := [(4, .int (nI (x1 + 1))), (5, .int (nI 1)), (0, .ref (m 0)), (3, .int (coFl C tr Y q))]) zx zb dX12_goes_242 hl (k := 3) rfl (nI_inc _ 1) (by decide) rfl (fun ls hl => ?_)
                        refine lv_goto (tgt := 111) zx zb dX12_goes_245 (by decide) ?_
                        exact ih111 (x1 + 1) b_241 Y_241 (by omega) (hr1) (by first | exact run_wet hZ2 c_129 eY_162 (Or.inl ⟨Int32.not_le.mp c_191, eY_200⟩) eY_241 | exact run_wet hZ2 c_129 eY_162 (Or.inr ⟨Int32.not_lt.mpr c_191, eY_200⟩) eY_241 | exact run_dry hZ2 c_129 eY_162 eY_200 (Or.inl ⟨c_219, eY_241⟩) | exact run_dry hZ2 c_129 eY_162 eY_200 (Or.inr ⟨c_219, eY_241⟩)) (by omega) _ _ hP hD hS _ (lv_sub hl [2, 3, 0] rfl)
                      · exact absurd c_210 (by decide)
                    · have c_191 : ¬ ((Y_162.2.2.2.1 x1) ≤ (0 : Int32)) := c_191
                      refine lv_iconst (v := nI 1) zx zb dX12_goes_194 (by decide) ?_
                      refine lv_goto (tgt := 199) zx zb dX12_goes_195 (by decide) ?_
                      refine lv_isub zx zb dX12_goes_199 ?_
                      refine g_top (y := (Y_162.2.2.2.1 x1) - 1) rfl ?_
                      refine g_iastN (x := (Y_162.2.2.2.1 x1) - 1) (i := 15 + 5 * x1 + 3) (blk' := bA Γ (m 1) 259 (upd b_162 (15 + 5 * x1 + 3) ((Y_162.2.2.2.1 x1) - 1))) (bs' := [bMo Γ m M, bA Γ (m 1) 259 (upd b_162 (15 + 5 * x1 + 3) ((Y_162.2.2.2.1 x1) - 1))]) XX hP hD hS 1 0 rfl rfl (by omega) (by decide) rfl rfl dX12_goes_200 (fun H locs hP hD hS => ?_)
                      have hr1 := Rel0_dike (v := (Y_162.2.2.2.1 x1) - 1) hr1 htc hdc (show x1 < 8 by omega)
                      generalize upd b_162 (15 + 5 * x1 + 3) ((Y_162.2.2.2.1 x1) - 1) = b_200 at hP hD hr1
                      obtain ⟨Y_200, eY_200⟩ : ∃ Zq_ : YrV, Zq_ = (Y_162.1, Y_162.2.1, Y_162.2.2.1, upd Y_162.2.2.2.1 x1 ((Y_162.2.2.2.1 x1) - 1), Y_162.2.2.2.2) := ⟨_, rfl⟩
                      rw [← eY_200] at hr1
                      refine lv_aload_n zx zb dX12_goes_201 rfl (lv_at hl 1 rfl) ?_
                      refine g_get (v := .ref (m 1)) XX hP 0 0 rfl rfl rfl iwX12 0 (by decide) fl_X12_7 rfl dX12_goes_202 ?_
                      refine lv_iconst (v := nI 2) zx zb dX12_goes_205 (by decide) ?_
                      refine lv_dup2_11 zx zb dX12_goes_206 rfl rfl ?_
                      refine g_ialdN (i := 2) XX hP 1 0 rfl rfl (by omega) (by decide) dX12_goes_207 ?_
                      refine g_top (y := Y_200.2.1) (Rel0.be hr1) ?_
                      refine lv_iload zx zb dX12_goes_208 (lv_at hl 0 rfl) ?_
                      refine lv_if_ne (tgt := 222) zx zb dX12_goes_210 (by decide) (fun c_210 => ?_) (fun c_210 => ?_)
                      · clear c_210
                        refine lv_iconst (v := nI 0) zx zb dX12_goes_222 (by decide) ?_
                        refine lv_goto (tgt := 240) zx zb dX12_goes_223 (by decide) ?_
                        refine lv_iadd zx zb dX12_goes_240 ?_
                        refine g_top (y := Y_200.2.1 + 0) rfl ?_
                        refine g_iastN (x := Y_200.2.1 + 0) (i := 2) (blk' := bA Γ (m 1) 259 (upd b_200 2 (Y_200.2.1 + 0))) (bs' := [bMo Γ m M, bA Γ (m 1) 259 (upd b_200 2 (Y_200.2.1 + 0))]) XX hP hD hS 1 0 rfl rfl (by omega) (by decide) rfl rfl dX12_goes_241 (fun H locs hP hD hS => ?_)
                        have hr1 := Rel0_bells (v := Y_200.2.1 + 0) hr1 htc hdc
                        generalize upd b_200 2 (Y_200.2.1 + 0) = b_241 at hP hD hr1
                        obtain ⟨Y_241, eY_241⟩ : ∃ Zq_ : YrV, Zq_ = (Y_200.1, Y_200.2.1 + 0, Y_200.2.2) := ⟨_, rfl⟩
                        rw [← eY_241] at hr1
                        refine lv_iinc (v := nI (x1 + 1)) (lv' := [(4, .int (nI (x1 + 1))), (5, .int (nI 1)), (0, .ref (m 0)), (3, .int (coFl C tr Y q))]) zx zb dX12_goes_242 hl (k := 3) rfl (nI_inc _ 1) (by decide) rfl (fun ls hl => ?_)
                        refine lv_goto (tgt := 111) zx zb dX12_goes_245 (by decide) ?_
                        exact ih111 (x1 + 1) b_241 Y_241 (by omega) (hr1) (by first | exact run_wet hZ2 c_129 eY_162 (Or.inl ⟨Int32.not_le.mp c_191, eY_200⟩) eY_241 | exact run_wet hZ2 c_129 eY_162 (Or.inr ⟨Int32.not_lt.mpr c_191, eY_200⟩) eY_241 | exact run_dry hZ2 c_129 eY_162 eY_200 (Or.inl ⟨c_219, eY_241⟩) | exact run_dry hZ2 c_129 eY_162 eY_200 (Or.inr ⟨c_219, eY_241⟩)) (by omega) _ _ hP hD hS _ (lv_sub hl [2, 3, 0] rfl)
                      · exact absurd c_210 (by decide)
        exact L111 _ 0 b1 Z (by omega) (hr1) (by rw [hZ]; exact runB_0) (Nat.lt_succ_self _) _ _ hP hD hS _ (lv_sub hl [2, 1, 0] rfl)
      · have c_16 : ¬ (C.2.2.2.2.2.2.1 ≤ t) := fun h => c_16 ((nI_leI (a := C.2.2.2.2.2.2.1) (b := t) (by omega) (by omega)).mpr h)
        refine lv_aload_n zx zb dX12_goes_19 rfl (lv_at hl 0 rfl) ?_
        refine lv_iload_n zx zb dX12_goes_20 rfl (lv_at hl 3 rfl) ?_
        refine lv_iload_n zx zb dX12_goes_21 rfl (lv_at hl 2 rfl) ?_
        refine call_Vi (As := [.int (nI t), .int Y.1]) (rest := []) XX cv_X12_190 (c0_X12_isOf Γ l m M b1 C tr Z pc P t Y.1 (hr1) (hIZ) (by omega)) hP hD hS hA [0, 1] (by decide) rfl (fun _ => rfl) 0 0 rfl rfl rfl rfl hl.1 rfl ⟨⟨by decide, by decide⟩, by decide, by decide⟩ (Nat.le_of_ble_eq_true rfl) dX12_goes_22 (fun r_22 u H locs hw hP hD hS => ?_)
        have hw := hw.symm
        subst hw
        have hP : bP Γ [bMo Γ m M, bA Γ (m 1) 259 b1] H := hP
        have hD : bD AA [bMo Γ m M, bA Γ (m 1) 259 b1] := hD
        refine lv_if_eq (tgt := 89) zx zb dX12_goes_25 (by decide) (fun c_25 => ?_) (fun c_25 => ?_)
        · have c_25 : (!yrBr Z t && trRuns (tr t) Y.1) = false := bI_0.mp c_25
          refine lv_iinc (v := nI (t + 1)) (lv' := [(3, .int (nI (t + 1))), (0, .ref (m 0)), (1, .int q), (2, .int Y.1)]) zx zb dX12_goes_89 hl (k := 3) rfl (nI_inc _ 1) (by decide) rfl (fun ls hl => ?_)
          refine lv_goto (tgt := 9) zx zb dX12_goes_92 (by decide) ?_
          exact ih9 (t + 1) b1 Z (by omega) (hr1) (by first | exact pay_no hZ hZy c_25 | exact pay_ok hZ hZy c_25 c_54 eY_88 | exact pay_br hZ hZy c_25 c_54 eY_62 eY_88 | exact absurd c_78 c_54 | exact goes_dead c_54 c_78 eY_62) (by first | exact hZy | (rw [eY_88]; exact hZy) | (rw [eY_88, eY_62]; exact hZy)) (by omega) _ _ hP hD hS _ (lv_sub hl [1, 2, 3, 0] rfl)
        · have c_25 : (!yrBr Z t && trRuns (tr t) Y.1) = true := bI_ne c_25
          refine lv_aload_n zx zb dX12_goes_28 rfl (lv_at hl 0 rfl) ?_
          refine lv_iload_n zx zb dX12_goes_29 rfl (lv_at hl 3 rfl) ?_
          refine lv_iload_n zx zb dX12_goes_30 rfl (lv_at hl 2 rfl) ?_
          refine call_Vi (As := [.int (nI t), .int Y.1]) (rest := []) XX cv_X12_196 (c0_X12_dueOf Γ l m M b1 C tr Z pc P t Y.1 (hr1) (hIZ) (by omega) (inv_y hI)) hP hD hS hA [0, 1] (by decide) rfl (fun _ => rfl) 0 0 rfl rfl rfl rfl hl.1 rfl ⟨⟨by decide, by decide⟩, by decide, by decide⟩ (Nat.le_of_ble_eq_true rfl) dX12_goes_31 (fun r_31 u H locs hw hP hD hS => ?_)
          have hw := hw.symm
          subst hw
          have hP : bP Γ [bMo Γ m M, bA Γ (m 1) 259 b1] H := hP
          have hD : bD AA [bMo Γ m M, bA Γ (m 1) 259 b1] := hD
          refine lv_istore (lv' := [(4, .int (kDue (tr t).1 (tCosts (tr t)) Y.1)), (0, .ref (m 0)), (1, .int q), (2, .int Y.1), (3, .int (nI t))]) zx zb dX12_goes_34 hl (by decide) rfl (fun ls hl => ?_)
          refine lv_aload_n zx zb dX12_goes_36 rfl (lv_at hl 1 rfl) ?_
          refine g_get (v := .ref (m 1)) XX hP 0 0 rfl rfl rfl iwX12 0 (by decide) fl_X12_7 rfl dX12_goes_37 ?_
          refine lv_iload_n zx zb dX12_goes_40 rfl (lv_at hl 4 rfl) ?_
          refine lv_bipush (v := nI 6) zx zb dX12_goes_41 (by decide) ?_
          refine callR_Si (As := [.int (nI t), .int (nI 6)]) (rest := [.ref (m 1)]) XX cs_X12_96 (c_X12_of0 Γ l t 6 ) hP hD hS hA nil_mem nil_D rfl hl.1 rfl ⟨⟨by decide, by decide⟩, by decide, by decide⟩ (Nat.le_of_ble_eq_true rfl) dX12_goes_43 (fun r_43 H locs hw hP hS => ?_)
          have hw := hw.symm
          subst hw
          refine lv_iload zx zb dX12_goes_46 (lv_at hl 0 rfl) ?_
          refine lv_aload_n zx zb dX12_goes_48 rfl (lv_at hl 1 rfl) ?_
          refine g_get (v := .ref (m 1)) XX hP 0 0 rfl rfl rfl iwX12 0 (by decide) fl_X12_7 rfl dX12_goes_49 ?_
          refine lv_iconst (v := nI 2) zx zb dX12_goes_52 (by decide) ?_
          refine g_ialdN (i := 2) XX hP 1 0 rfl rfl (by omega) (by decide) dX12_goes_53 ?_
          refine g_top (y := Z.2.1) (Rel0.be hr1) ?_
          refine lv_icmp_gt (tgt := 61) zx zb dX12_goes_54 (by decide) (fun c_54 => ?_) (fun c_54 => ?_)
          · have c_54 : Z.2.1 < (kDue (tr t).1 (tCosts (tr t)) Y.1) := c_54
            refine lv_iconst (v := nI 1) zx zb dX12_goes_61 (by decide) ?_
            refine g_iastN (x := nI 1) (i := 55 + 7 * t + 6) (blk' := bA Γ (m 1) 259 (upd b1 (55 + 7 * t + 6) (nI 1))) (bs' := [bMo Γ m M, bA Γ (m 1) 259 (upd b1 (55 + 7 * t + 6) (nI 1))]) XX hP hD hS 1 0 rfl rfl (by omega) (by decide) rfl rfl dX12_goes_62 (fun H locs hP hD hS => ?_)
            have hr1 := Rel0_brk hr1 htc hdc (show t < C.2.2.2.2.2.2.1 by omega)
            generalize upd b1 (55 + 7 * t + 6) (nI 1) = b_62 at hP hD hr1
            obtain ⟨Y_62, eY_62⟩ : ∃ Zq_ : YrV, Zq_ = (Z.1, Z.2.1, Z.2.2.1 ||| bit t, Z.2.2.2) := ⟨_, rfl⟩
            rw [← eY_62] at hr1
            refine lv_aload_n zx zb dX12_goes_63 rfl (lv_at hl 1 rfl) ?_
            refine g_get (v := .ref (m 1)) XX hP 0 0 rfl rfl rfl iwX12 0 (by decide) fl_X12_7 rfl dX12_goes_64 ?_
            refine lv_iconst (v := nI 2) zx zb dX12_goes_67 (by decide) ?_
            refine lv_dup2_11 zx zb dX12_goes_68 rfl rfl ?_
            refine g_ialdN (i := 2) XX hP 1 0 rfl rfl (by omega) (by decide) dX12_goes_69 ?_
            refine g_top (y := Y_62.2.1) (Rel0.be hr1) ?_
            refine lv_iload zx zb dX12_goes_70 (lv_at hl 0 rfl) ?_
            refine lv_aload_n zx zb dX12_goes_72 rfl (lv_at hl 1 rfl) ?_
            refine g_get (v := .ref (m 1)) XX hP 0 0 rfl rfl rfl iwX12 0 (by decide) fl_X12_7 rfl dX12_goes_73 ?_
            refine lv_iconst (v := nI 2) zx zb dX12_goes_76 (by decide) ?_
            refine g_ialdN (i := 2) XX hP 1 0 rfl rfl (by omega) (by decide) dX12_goes_77 ?_
            refine g_top (y := Y_62.2.1) (Rel0.be hr1) ?_
            refine lv_icmp_gt (tgt := 86) zx zb dX12_goes_78 (by decide) (fun c_78 => ?_) (fun c_78 => ?_)
            · have c_78 : Y_62.2.1 < (kDue (tr t).1 (tCosts (tr t)) Y.1) := c_78
              refine lv_iconst (v := nI 0) zx zb dX12_goes_86 (by decide) ?_
              refine lv_isub zx zb dX12_goes_87 ?_
              refine g_top (y := Y_62.2.1 - 0) rfl ?_
              refine g_iastN (x := Y_62.2.1 - 0) (i := 2) (blk' := bA Γ (m 1) 259 (upd b_62 2 (Y_62.2.1 - 0))) (bs' := [bMo Γ m M, bA Γ (m 1) 259 (upd b_62 2 (Y_62.2.1 - 0))]) XX hP hD hS 1 0 rfl rfl (by omega) (by decide) rfl rfl dX12_goes_88 (fun H locs hP hD hS => ?_)
              have hr1 := Rel0_bells (v := Y_62.2.1 - 0) hr1 htc hdc
              generalize upd b_62 2 (Y_62.2.1 - 0) = b_88 at hP hD hr1
              obtain ⟨Y_88, eY_88⟩ : ∃ Zq_ : YrV, Zq_ = (Y_62.1, Y_62.2.1 - 0, Y_62.2.2) := ⟨_, rfl⟩
              rw [← eY_88] at hr1
              refine lv_iinc (v := nI (t + 1)) (lv' := [(3, .int (nI (t + 1))), (4, .int (kDue (tr t).1 (tCosts (tr t)) Y.1)), (0, .ref (m 0)), (1, .int q), (2, .int Y.1)]) zx zb dX12_goes_89 hl (k := 4) rfl (nI_inc _ 1) (by decide) rfl (fun ls hl => ?_)
              refine lv_goto (tgt := 9) zx zb dX12_goes_92 (by decide) ?_
              exact ih9 (t + 1) b_88 Y_88 (by omega) (hr1) (by first | exact pay_no hZ hZy c_25 | exact pay_ok hZ hZy c_25 c_54 eY_88 | exact pay_br hZ hZy c_25 c_54 eY_62 eY_88 | exact absurd c_78 c_54 | exact goes_dead c_54 c_78 eY_62) (by first | exact hZy | (rw [eY_88]; exact hZy) | (rw [eY_88, eY_62]; exact hZy)) (by omega) _ _ hP hD hS _ (lv_sub hl [2, 3, 4, 0] rfl)
            · have c_78 : ¬ (Y_62.2.1 < (kDue (tr t).1 (tCosts (tr t)) Y.1)) := c_78
              refine lv_iload zx zb dX12_goes_81 (lv_at hl 0 rfl) ?_
              refine lv_goto (tgt := 87) zx zb dX12_goes_83 (by decide) ?_
              refine lv_isub zx zb dX12_goes_87 ?_
              refine g_iastN (x := Y_62.2.1 - (kDue (tr t).1 (tCosts (tr t)) Y.1)) (i := 2) (blk' := bA Γ (m 1) 259 (upd b_62 2 (Y_62.2.1 - (kDue (tr t).1 (tCosts (tr t)) Y.1)))) (bs' := [bMo Γ m M, bA Γ (m 1) 259 (upd b_62 2 (Y_62.2.1 - (kDue (tr t).1 (tCosts (tr t)) Y.1)))]) XX hP hD hS 1 0 rfl rfl (by omega) (by decide) rfl rfl dX12_goes_88 (fun H locs hP hD hS => ?_)
              have hr1 := Rel0_bells (v := Y_62.2.1 - (kDue (tr t).1 (tCosts (tr t)) Y.1)) hr1 htc hdc
              generalize upd b_62 2 (Y_62.2.1 - (kDue (tr t).1 (tCosts (tr t)) Y.1)) = b_88 at hP hD hr1
              obtain ⟨Y_88, eY_88⟩ : ∃ Zq_ : YrV, Zq_ = (Y_62.1, Y_62.2.1 - (kDue (tr t).1 (tCosts (tr t)) Y.1), Y_62.2.2) := ⟨_, rfl⟩
              rw [← eY_88] at hr1
              refine lv_iinc (v := nI (t + 1)) (lv' := [(3, .int (nI (t + 1))), (4, .int (kDue (tr t).1 (tCosts (tr t)) Y.1)), (0, .ref (m 0)), (1, .int q), (2, .int Y.1)]) zx zb dX12_goes_89 hl (k := 4) rfl (nI_inc _ 1) (by decide) rfl (fun ls hl => ?_)
              refine lv_goto (tgt := 9) zx zb dX12_goes_92 (by decide) ?_
              exact ih9 (t + 1) b_88 Y_88 (by omega) (hr1) (by first | exact pay_no hZ hZy c_25 | exact pay_ok hZ hZy c_25 c_54 eY_88 | exact pay_br hZ hZy c_25 c_54 eY_62 eY_88 | exact absurd c_78 c_54 | exact goes_dead c_54 c_78 eY_62) (by first | exact hZy | (rw [eY_88]; exact hZy) | (rw [eY_88, eY_62]; exact hZy)) (by omega) _ _ hP hD hS _ (lv_sub hl [2, 3, 4, 0] rfl)
          · have c_54 : ¬ (Z.2.1 < (kDue (tr t).1 (tCosts (tr t)) Y.1)) := c_54
            refine lv_iconst (v := nI 0) zx zb dX12_goes_57 (by decide) ?_
            refine lv_goto (tgt := 62) zx zb dX12_goes_58 (by decide) ?_
            refine g_iastN (x := nI 0) (i := 55 + 7 * t + 6) (blk' := bA Γ (m 1) 259 (upd b1 (55 + 7 * t + 6) (nI 0))) (bs' := [bMo Γ m M, bA Γ (m 1) 259 (upd b1 (55 + 7 * t + 6) (nI 0))]) XX hP hD hS 1 0 rfl rfl (by omega) (by decide) rfl rfl dX12_goes_62 (fun H locs hP hD hS => ?_)
            have hr1 := Rel0_pay hr1 htc hdc (show t < C.2.2.2.2.2.2.1 by omega) (isof_b c_25)
            generalize upd b1 (55 + 7 * t + 6) (nI 0) = b_62 at hP hD hr1
            refine lv_aload_n zx zb dX12_goes_63 rfl (lv_at hl 1 rfl) ?_
            refine g_get (v := .ref (m 1)) XX hP 0 0 rfl rfl rfl iwX12 0 (by decide) fl_X12_7 rfl dX12_goes_64 ?_
            refine lv_iconst (v := nI 2) zx zb dX12_goes_67 (by decide) ?_
            refine lv_dup2_11 zx zb dX12_goes_68 rfl rfl ?_
            refine g_ialdN (i := 2) XX hP 1 0 rfl rfl (by omega) (by decide) dX12_goes_69 ?_
            refine g_top (y := Z.2.1) (Rel0.be hr1) ?_
            refine lv_iload zx zb dX12_goes_70 (lv_at hl 0 rfl) ?_
            refine lv_aload_n zx zb dX12_goes_72 rfl (lv_at hl 1 rfl) ?_
            refine g_get (v := .ref (m 1)) XX hP 0 0 rfl rfl rfl iwX12 0 (by decide) fl_X12_7 rfl dX12_goes_73 ?_
            refine lv_iconst (v := nI 2) zx zb dX12_goes_76 (by decide) ?_
            refine g_ialdN (i := 2) XX hP 1 0 rfl rfl (by omega) (by decide) dX12_goes_77 ?_
            refine g_top (y := Z.2.1) (Rel0.be hr1) ?_
            refine lv_icmp_gt (tgt := 86) zx zb dX12_goes_78 (by decide) (fun c_78 => ?_) (fun c_78 => ?_)
            · have c_78 : Z.2.1 < (kDue (tr t).1 (tCosts (tr t)) Y.1) := c_78
              refine lv_iconst (v := nI 0) zx zb dX12_goes_86 (by decide) ?_
              refine lv_isub zx zb dX12_goes_87 ?_
              refine g_top (y := Z.2.1 - 0) rfl ?_
              refine g_iastN (x := Z.2.1 - 0) (i := 2) (blk' := bA Γ (m 1) 259 (upd b_62 2 (Z.2.1 - 0))) (bs' := [bMo Γ m M, bA Γ (m 1) 259 (upd b_62 2 (Z.2.1 - 0))]) XX hP hD hS 1 0 rfl rfl (by omega) (by decide) rfl rfl dX12_goes_88 (fun H locs hP hD hS => ?_)
              have hr1 := Rel0_bells (v := Z.2.1 - 0) hr1 htc hdc
              generalize upd b_62 2 (Z.2.1 - 0) = b_88 at hP hD hr1
              obtain ⟨Y_88, eY_88⟩ : ∃ Zq_ : YrV, Zq_ = (Z.1, Z.2.1 - 0, Z.2.2) := ⟨_, rfl⟩
              rw [← eY_88] at hr1
              refine lv_iinc (v := nI (t + 1)) (lv' := [(3, .int (nI (t + 1))), (4, .int (kDue (tr t).1 (tCosts (tr t)) Y.1)), (0, .ref (m 0)), (1, .int q), (2, .int Y.1)]) zx zb dX12_goes_89 hl (k := 4) rfl (nI_inc _ 1) (by decide) rfl (fun ls hl => ?_)
              refine lv_goto (tgt := 9) zx zb dX12_goes_92 (by decide) ?_
              exact ih9 (t + 1) b_88 Y_88 (by omega) (hr1) (by first | exact pay_no hZ hZy c_25 | exact pay_ok hZ hZy c_25 c_54 eY_88 | exact pay_br hZ hZy c_25 c_54 eY_62 eY_88 | exact absurd c_78 c_54 | exact goes_dead c_54 c_78 eY_62) (by first | exact hZy | (rw [eY_88]; exact hZy) | (rw [eY_88, eY_62]; exact hZy)) (by omega) _ _ hP hD hS _ (lv_sub hl [2, 3, 4, 0] rfl)
            · have c_78 : ¬ (Z.2.1 < (kDue (tr t).1 (tCosts (tr t)) Y.1)) := c_78
              refine lv_iload zx zb dX12_goes_81 (lv_at hl 0 rfl) ?_
              refine lv_goto (tgt := 87) zx zb dX12_goes_83 (by decide) ?_
              refine lv_isub zx zb dX12_goes_87 ?_
              refine g_iastN (x := Z.2.1 - (kDue (tr t).1 (tCosts (tr t)) Y.1)) (i := 2) (blk' := bA Γ (m 1) 259 (upd b_62 2 (Z.2.1 - (kDue (tr t).1 (tCosts (tr t)) Y.1)))) (bs' := [bMo Γ m M, bA Γ (m 1) 259 (upd b_62 2 (Z.2.1 - (kDue (tr t).1 (tCosts (tr t)) Y.1)))]) XX hP hD hS 1 0 rfl rfl (by omega) (by decide) rfl rfl dX12_goes_88 (fun H locs hP hD hS => ?_)
              have hr1 := Rel0_bells (v := Z.2.1 - (kDue (tr t).1 (tCosts (tr t)) Y.1)) hr1 htc hdc
              generalize upd b_62 2 (Z.2.1 - (kDue (tr t).1 (tCosts (tr t)) Y.1)) = b_88 at hP hD hr1
              obtain ⟨Y_88, eY_88⟩ : ∃ Zq_ : YrV, Zq_ = (Z.1, Z.2.1 - (kDue (tr t).1 (tCosts (tr t)) Y.1), Z.2.2) := ⟨_, rfl⟩
              rw [← eY_88] at hr1
              refine lv_iinc (v := nI (t + 1)) (lv' := [(3, .int (nI (t + 1))), (4, .int (kDue (tr t).1 (tCosts (tr t)) Y.1)), (0, .ref (m 0)), (1, .int q), (2, .int Y.1)]) zx zb dX12_goes_89 hl (k := 4) rfl (nI_inc _ 1) (by decide) rfl (fun ls hl => ?_)
              refine lv_goto (tgt := 9) zx zb dX12_goes_92 (by decide) ?_
              exact ih9 (t + 1) b_88 Y_88 (by omega) (hr1) (by first | exact pay_no hZ hZy c_25 | exact pay_ok hZ hZy c_25 c_54 eY_88 | exact pay_br hZ hZy c_25 c_54 eY_62 eY_88 | exact absurd c_78 c_54 | exact goes_dead c_54 c_78 eY_62) (by first | exact hZy | (rw [eY_88]; exact hZy) | (rw [eY_88, eY_62]; exact hZy)) (by omega) _ _ hP hD hS _ (lv_sub hl [2, 3, 4, 0] rfl)
  exact L9 _ 0 b Y (by omega) (hr) (rfl) (rfl) (Nat.lt_succ_self _) _ _ hP hD hS _ (lv_sub hl [2, 3, 1, 0] rfl)

set_option maxHeartbeats 4000000 in
set_option maxRecDepth 100000 in
theorem c0_X12_floodsIn (Γ : GG) (l : Launch) (m : Nat → Nat) (M : MoV) (b : Nat → Int32) (C : CoV) (tr : Nat → TrV) (Y : YrV) (pc : Nat) (P : Nat → YrV) (n : Nat) (y : Nat) (hr : Rel0 b C tr Y pc P) (hI : Inv C tr Y) (hy : Y.1 = nI y) (hyn : y + n < 1000000) : Ci Γ l yX12_floodsIn cX12_floodsIn 4 (some (.int)) 4 98 0 0 [.ref (m 0), .int (nI n)] [bMo Γ m M, bA Γ (m 1) 259 b] (fun (r : Int32) (u : Nat → Int32) => r = flB C tr Y n ∧ Rel0 u C tr (runM C tr Y n) pc P) (fun (u : Nat → Int32) => [bMo Γ m M, bA Γ (m 1) 259 u]) := by
  refine Ci.of (Or.inl rfl) (by decide) (Nat.le_of_ble_eq_true rfl) ?_
  intro pp ee ss mm bb me cd AA QQ XX hnm hA hP hD fin ls hl
  obtain ⟨zx, zb, hml, hown, hts, hK⟩ := id XX
  have hS : va_S AA ss.heap ss.heap [] := va_S.rf
  have hl : lv_has ls 4 [(0, .ref (m 0)), (1, .int (nI n))] := hl
  have htc := inv_tc hI
  have hdc := inv_dc hI
  have hn := inv_n hI
  refine lv_iconst (v := nI 0) zx zb dX12_floodsIn_0 (by decide) ?_
  refine lv_istore_n (lv' := [(2, .int (nI 0)), (0, .ref (m 0)), (1, .int (nI n))]) zx zb dX12_floodsIn_1 rfl hl (by decide) rfl (fun ls hl => ?_)
  refine lv_iconst (v := nI 0) zx zb dX12_floodsIn_2 (by decide) ?_
  refine lv_istore_n (lv' := [(3, .int (nI 0)), (2, .int (nI 0)), (0, .ref (m 0)), (1, .int (nI n))]) zx zb dX12_floodsIn_3 rfl hl (by decide) rfl (fun ls hl => ?_)
  have L4 : ∀ (nn : Nat) (i : Nat) (a : Int32) (b1 : Nat → Int32), (i ≤ n) → (a = flB C tr Y i) → (Rel0 b1 C tr (runM C tr Y i) pc P) → n - i < nn → ∀ (H : Heap) (locs : List Loc), bP Γ [bMo Γ m M, bA Γ (m 1) 259 b1] H → bD AA [bMo Γ m M, bA Γ (m 1) 259 b1] → va_S AA ss.heap H locs → ∀ (ls : Array Slot), lv_has ls 4 [(0, .ref (m 0)), (1, .int (nI n)), (2, .int a), (3, .int (nI i))] → W pp l ee { frames := 4, cells := 0, slots := 0, locals := 98 } ss mm [.ref (m 0), .int (nI n)].toArray bb me cd H locs 0 0 QQ (F0 mm 4 ls []) := by
    intro nn
    induction nn with
    | zero => intro i a b1 hi ha hr1 hm; exact absurd hm (Nat.not_lt_zero _)
    | succ nn ih4 =>
      intro i a b1 hi ha hr1 hm4 H locs hP hD hS ls hl
      have hIZ : Inv C tr (runM C tr Y i) := inv_run hI hy (by omega)
      refine lv_iload_n zx zb dX12_floodsIn_4 rfl (lv_at hl 3 rfl) ?_
      refine lv_iload_n zx zb dX12_floodsIn_5 rfl (lv_at hl 1 rfl) ?_
      refine lv_icmp_ge (tgt := 35) zx zb dX12_floodsIn_6 (by decide) (fun c_6 => ?_) (fun c_6 => ?_)
      · have c_6 : n ≤ i := (nI_leI (a := n) (b := i) (by omega) (by omega)).mp c_6
        refine lv_iload_n zx zb dX12_floodsIn_35 rfl (lv_at hl 2 rfl) ?_
        exact fin _ _ a b1 36 _ dX12_floodsIn_36 (fun h => by cases h) (⟨by have e : i = n := (by omega); subst e; exact ha, by have e : i = n := (by omega); subst e; exact hr1⟩) hP hD hS
      · have c_6 : ¬ (n ≤ i) := fun h => c_6 ((nI_leI (a := n) (b := i) (by omega) (by omega)).mpr h)
        refine lv_iload_n zx zb dX12_floodsIn_9 rfl (lv_at hl 2 rfl) ?_
        refine lv_aload_n zx zb dX12_floodsIn_10 rfl (lv_at hl 0 rfl) ?_
        refine lv_aload_n zx zb dX12_floodsIn_11 rfl (lv_at hl 0 rfl) ?_
        refine lv_aload_n zx zb dX12_floodsIn_12 rfl (lv_at hl 0 rfl) ?_
        refine g_get (v := .ref (m 1)) XX hP 0 0 rfl rfl rfl iwX12 0 (by decide) fl_X12_7 rfl dX12_floodsIn_13 ?_
        refine lv_iconst (v := nI 1) zx zb dX12_floodsIn_16 (by decide) ?_
        refine g_ialdN (i := 1) XX hP 1 0 rfl rfl (by omega) (by decide) dX12_floodsIn_17 ?_
        refine g_top (y := (runM C tr Y i).1) (Rel0.y hr1) ?_
        refine call_Vi (As := [.int ((runM C tr Y i).1)]) (rest := [.ref (m 0), .int a]) XX cv_X12_215 (c0_X12_stormOf Γ l m M b1 C tr (runM C tr Y i) pc P ((runM C tr Y i).1) (hr1) (hIZ) (inv_y hIZ)) hP hD hS hA [0, 1] (by decide) rfl (fun _ => rfl) 0 0 rfl rfl rfl rfl hl.1 rfl ⟨⟨by decide, by decide⟩, by decide, by decide⟩ (Nat.le_of_ble_eq_true rfl) dX12_floodsIn_18 (fun r_18 u H locs hw hP hD hS => ?_)
        have hw := hw.symm
        subst hw
        have hP : bP Γ [bMo Γ m M, bA Γ (m 1) 259 b1] H := hP
        have hD : bD AA [bMo Γ m M, bA Γ (m 1) 259 b1] := hD
        refine call_Vi (As := [.int (coStorm C ((runM C tr Y i).1))]) (rest := [.int a]) XX cv_X12_218 (c0_X12_goes Γ l m M b1 C tr (runM C tr Y i) pc P (coStorm C ((runM C tr Y i).1)) (hr1) (hIZ)) hP hD hS hA [0, 1] (by decide) rfl (fun _ => rfl) 0 0 rfl rfl rfl rfl hl.1 rfl ⟨⟨by decide, by decide⟩, by decide, by decide⟩ (Nat.le_of_ble_eq_true rfl) dX12_floodsIn_21 (fun r_21 u H locs hw hP hD hS => ?_)
        obtain ⟨u_21, rfl⟩ : ∃ z, z = u := ⟨_, rfl⟩
        have w_21 := hw
        have hP : bP Γ [bMo Γ m M, bA Γ (m 1) 259 u_21] H := hP
        have hD : bD AA [bMo Γ m M, bA Γ (m 1) 259 u_21] := hD
        refine callR_Si (As := [.int r_21]) (rest := [.int a]) XX cs_X12_246 (c_X12_bits Γ l r_21 ) hP hD hS hA nil_mem nil_D rfl hl.1 rfl ⟨⟨by decide, by decide⟩, by decide, by decide⟩ (Nat.le_of_ble_eq_true rfl) dX12_floodsIn_24 (fun r_24 H locs hw hP hS => ?_)
        have hw := hw.symm
        subst hw
        refine lv_iadd zx zb dX12_floodsIn_27 ?_
        refine lv_istore_n (lv' := [(2, .int (a + (bitsN r_21 8))), (0, .ref (m 0)), (1, .int (nI n)), (3, .int (nI i))]) zx zb dX12_floodsIn_28 rfl hl (by decide) rfl (fun ls hl => ?_)
        refine lv_iinc (v := nI (i + 1)) (lv' := [(3, .int (nI (i + 1))), (2, .int (a + (bitsN r_21 8))), (0, .ref (m 0)), (1, .int (nI n))]) zx zb dX12_floodsIn_29 hl (k := 3) rfl (nI_inc _ 1) (by decide) rfl (fun ls hl => ?_)
        refine lv_goto (tgt := 4) zx zb dX12_floodsIn_32 (by decide) ?_
        exact ih4 (i + 1) (a + (bitsN r_21 8)) u_21 (by omega) (by rw [flB, ← ha, w_21.1]; rfl) (w_21.2) (by omega) _ _ hP hD hS _ (lv_sub hl [2, 3, 1, 0] rfl)
  exact L4 _ 0 0 b (by omega) (rfl) (hr) (Nat.lt_succ_self _) _ _ hP hD hS _ (lv_sub hl [2, 3, 1, 0] rfl)
