theorem cs_X12_96 : CWS RX12 96 yX12_of0 cX12_of0 2 (some (.int)) 2 := ⟨cd_X12_of0, st_X12_of0, in_X12, ml_X12_96, by decide +kernel⟩
theorem cv_X12_184 : CWV RX12 184 RX12 yX12_isSpring cX12_isSpring 2 (some (.boolean)) 1 := ⟨cd_X12_isSpring, im_X12_isSpring, se_X12_X12_isSpring_X12_isSpring, in_X12, ml_X12_184, by decide +kernel⟩
theorem cv_X12_187 : CWV RX12 187 RX12 yX12_costs cX12_costs 4 (some (.int)) 1 := ⟨cd_X12_costs, im_X12_costs, se_X12_X12_costs_X12_costs, in_X12, ml_X12_187, by decide +kernel⟩
set_option maxHeartbeats 4000000 in
set_option maxRecDepth 100000 in
theorem c_X12_stormOf (Γ : GG) (l : Launch) (m : Nat → Nat) (M : MoV) (b : Nat → Int32) (C : CoV) (tr : Nat → TrV) (Y : YrV) (pc : Nat) (P : Nat → YrV) (z : Int32) (hr : Rel b C tr Y pc P) (hI : Inv C tr Y) (hz : ∃ y : Nat, y < 2 ^ 31 ∧ z = nI y) : Ci Γ l yX12_stormOf cX12_stormOf 2 (some (.int)) 1 21 0 0 [.ref (m 0), .int z] [bMo Γ m M, bA Γ (m 1) 259 b] (fun (r : Int32) (u : Unit) => r = coStorm C z) (fun (u : Unit) => [bMo Γ m M, bA Γ (m 1) 259 b]) := by
  refine Ci.of (Or.inl rfl) (by decide) (Nat.le_of_ble_eq_true rfl) ?_
  intro pp ee ss mm bb me cd AA QQ XX hnm hA hP hD fin ls hl
  obtain ⟨zx, zb, hml, hown, hts, hK⟩ := id XX
  have hS : va_S AA ss.heap ss.heap [] := va_S.rf
  have hl : lv_has ls 2 [(0, .ref (m 0)), (1, .int z)] := hl
  obtain ⟨j, hj, rfl⟩ := hz
  refine lv_aload_n zx zb dX12_stormOf_0 rfl (lv_at hl 0 rfl) ?_
  refine g_get (v := .ref (m 1)) XX hP 0 0 rfl rfl rfl iwX12 0 (by decide) fl_X12_7 rfl dX12_stormOf_1 ?_
  refine lv_bipush (v := nI 7) zx zb dX12_stormOf_4 (by decide) ?_
  refine lv_iload_n zx zb dX12_stormOf_6 rfl (lv_at hl 1 rfl) ?_
  refine lv_bipush (v := nI 8) zx zb dX12_stormOf_7 (by decide) ?_
  refine lv_irem zx zb dX12_stormOf_9 (by decide) ?_
  refine g_top (y := (nI j) - (nI j) / 8 * 8) rfl ?_
  refine g_top (y := nI (j % 8)) (rem8 hj) ?_
  refine lv_iadd zx zb dX12_stormOf_10 ?_
  refine g_top (y := nI (7 + (j % 8))) (nI_add 7 (j % 8)) ?_
  refine g_ialdN (i := 7 + (j % 8)) XX hP 1 0 rfl rfl (by omega) (by decide) dX12_stormOf_11 ?_
  refine g_top (y := C.2.2.2.2.2.1 (j % 8)) (Rel.wn hr (Nat.mod_lt _ (by decide))) ?_
  refine lv_aload_n zx zb dX12_stormOf_12 rfl (lv_at hl 0 rfl) ?_
  refine lv_iload_n zx zb dX12_stormOf_13 rfl (lv_at hl 1 rfl) ?_
  refine call_Vi (As := [.int (nI j)]) (rest := [.int (C.2.2.2.2.2.1 (j % 8))]) XX cv_X12_184 (c_X12_isSpring Γ l m M b C tr Y pc P (nI j) (hr) (hI)) hP hD hS hA [0, 1] (by decide) rfl (fun _ => rfl) 0 0 rfl rfl rfl rfl hl.1 rfl ⟨⟨by decide, by decide⟩, by decide, by decide⟩ (Nat.le_of_ble_eq_true rfl) dX12_stormOf_14 (fun r_14 u H locs hw hP hD hS => ?_)
  have hw := hw.symm
  subst hw
  have hP : bP Γ [bMo Γ m M, bA Γ (m 1) 259 b] H := hP
  have hD : bD AA [bMo Γ m M, bA Γ (m 1) 259 b] := hD
  refine lv_if_eq (tgt := 24) zx zb dX12_stormOf_17 (by decide) (fun c_17 => ?_) (fun c_17 => ?_)
  · have c_17 : (coSpring C (nI j)) = false := bI_0.mp c_17
    refine lv_iconst (v := nI 0) zx zb dX12_stormOf_24 (by decide) ?_
    refine lv_iadd zx zb dX12_stormOf_25 ?_
    refine g_top (y := (C.2.2.2.2.2.1 (j % 8)) + 0) rfl ?_
    exact fin _ _ ((C.2.2.2.2.2.1 (j % 8)) + 0) () 26 _ dX12_stormOf_26 (fun h => by cases h) (by unfold coStorm coMore; rw [and7 hj, c_17]; rfl) hP hD hS
  · have c_17 : (coSpring C (nI j)) = true := bI_ne c_17
    refine lv_iconst (v := nI 2) zx zb dX12_stormOf_20 (by decide) ?_
    refine lv_goto (tgt := 25) zx zb dX12_stormOf_21 (by decide) ?_
    refine lv_iadd zx zb dX12_stormOf_25 ?_
    refine g_top (y := (C.2.2.2.2.2.1 (j % 8)) + 2) rfl ?_
    exact fin _ _ ((C.2.2.2.2.2.1 (j % 8)) + 2) () 26 _ dX12_stormOf_26 (fun h => by cases h) (by unfold coStorm coMore; rw [and7 hj, c_17]; rfl) hP hD hS

set_option maxHeartbeats 4000000 in
set_option maxRecDepth 100000 in
theorem c_X12_holds (Γ : GG) (l : Launch) (m : Nat → Nat) (M : MoV) (b : Nat → Int32) (C : CoV) (tr : Nat → TrV) (Y : YrV) (pc : Nat) (P : Nat → YrV) (t : Nat) (z : Int32) (hr : Rel b C tr Y pc P) (hI : Inv C tr Y) (ht : t < C.2.2.2.2.2.2.1) : Ci Γ l yX12_holds cX12_holds 4 (some (.int)) 1 21 0 0 [.ref (m 0), .int (nI t), .int z] [bMo Γ m M, bA Γ (m 1) 259 b] (fun (r : Int32) (u : Unit) => r = kHolds (tr t).1 (coSpring C z)) (fun (u : Unit) => [bMo Γ m M, bA Γ (m 1) 259 b]) := by
  refine Ci.of (Or.inl rfl) (by decide) (Nat.le_of_ble_eq_true rfl) ?_
  intro pp ee ss mm bb me cd AA QQ XX hnm hA hP hD fin ls hl
  obtain ⟨zx, zb, hml, hown, hts, hK⟩ := id XX
  have hS : va_S AA ss.heap ss.heap [] := va_S.rf
  have hl : lv_has ls 4 [(0, .ref (m 0)), (1, .int (nI t)), (2, .int z)] := hl
  have htc := inv_tc hI
  have h6 := inv_kd hI t (by omega)
  refine lv_aload_n zx zb dX12_holds_0 rfl (lv_at hl 0 rfl) ?_
  refine g_get (v := .ref (m 1)) XX hP 0 0 rfl rfl rfl iwX12 0 (by decide) fl_X12_7 rfl dX12_holds_1 ?_
  refine lv_iload_n zx zb dX12_holds_4 rfl (lv_at hl 1 rfl) ?_
  refine lv_iconst (v := nI 0) zx zb dX12_holds_5 (by decide) ?_
  refine callR_Si (As := [.int (nI t), .int (nI 0)]) (rest := [.ref (m 1)]) XX cs_X12_96 (c_X12_of0 Γ l t 0 ) hP hD hS hA nil_mem nil_D rfl hl.1 rfl ⟨⟨by decide, by decide⟩, by decide, by decide⟩ (Nat.le_of_ble_eq_true rfl) dX12_holds_6 (fun r_6 H locs hw hP hS => ?_)
  have hw := hw.symm
  subst hw
  refine g_ialdN (i := 55 + 7 * t + 0) XX hP 1 0 rfl rfl (by omega) (by decide) dX12_holds_9 ?_
  refine g_top (y := nI ((tr t).1)) (Rel.t0 hr (by omega)) ?_
  refine lv_istore_n (lv' := [(3, .int (nI ((tr t).1))), (0, .ref (m 0)), (1, .int (nI t)), (2, .int z)]) zx zb dX12_holds_10 rfl hl (by decide) rfl (fun ls hl => ?_)
  refine lv_iload_n zx zb dX12_holds_11 rfl (lv_at hl 0 rfl) ?_
  refine lv_iconst (v := nI 1) zx zb dX12_holds_12 (by decide) ?_
  refine lv_icmp_eq (tgt := 21) zx zb dX12_holds_13 (by decide) (fun c_13 => ?_) (fun c_13 => ?_)
  · have c_13 : (tr t).1 = 1 := (nI_eq (a := (tr t).1) (b := 1) (by omega) (by omega)).mp c_13
    refine lv_bipush (v := nI 11) zx zb dX12_holds_21 (by decide) ?_
    refine lv_goto (tgt := 55) zx zb dX12_holds_23 (by decide) ?_
    exact fin _ _ (nI 11) () 55 _ dX12_holds_55 (fun h => by cases h) (by first | exact kH_a (Or.inl c_13) | exact kH_a (Or.inr c_18) | exact kH_b c_28 c_36 | exact kH_c c_46 | exact kH_d h6 c_13 c_18 c_46 (Or.inl c_28) | exact kH_d h6 c_13 c_18 c_46 (Or.inr c_36)) hP hD hS
  · have c_13 : ¬ ((tr t).1 = 1) := fun h => c_13 ((nI_eq (a := (tr t).1) (b := 1) (by omega) (by omega)).mpr h)
    refine lv_iload_n zx zb dX12_holds_16 rfl (lv_at hl 0 rfl) ?_
    refine lv_iconst (v := nI 4) zx zb dX12_holds_17 (by decide) ?_
    refine lv_icmp_ne (tgt := 26) zx zb dX12_holds_18 (by decide) (fun c_18 => ?_) (fun c_18 => ?_)
    · have c_18 : ¬ ((tr t).1 = 4) := fun h => c_18 ((nI_eq (a := (tr t).1) (b := 4) (by omega) (by omega)).mpr h)
      refine lv_iload_n zx zb dX12_holds_26 rfl (lv_at hl 0 rfl) ?_
      refine lv_iconst (v := nI 2) zx zb dX12_holds_27 (by decide) ?_
      refine lv_icmp_ne (tgt := 44) zx zb dX12_holds_28 (by decide) (fun c_28 => ?_) (fun c_28 => ?_)
      · have c_28 : ¬ ((tr t).1 = 2) := fun h => c_28 ((nI_eq (a := (tr t).1) (b := 2) (by omega) (by omega)).mpr h)
        refine lv_iload_n zx zb dX12_holds_44 rfl (lv_at hl 0 rfl) ?_
        refine lv_iconst (v := nI 5) zx zb dX12_holds_45 (by decide) ?_
        refine lv_icmp_ne (tgt := 53) zx zb dX12_holds_46 (by decide) (fun c_46 => ?_) (fun c_46 => ?_)
        · have c_46 : ¬ ((tr t).1 = 5) := fun h => c_46 ((nI_eq (a := (tr t).1) (b := 5) (by omega) (by omega)).mpr h)
          refine lv_bipush (v := nI 8) zx zb dX12_holds_53 (by decide) ?_
          exact fin _ _ (nI 8) () 55 _ dX12_holds_55 (fun h => by cases h) (by first | exact kH_a (Or.inl c_13) | exact kH_a (Or.inr c_18) | exact kH_b c_28 c_36 | exact kH_c c_46 | exact kH_d h6 c_13 c_18 c_46 (Or.inl c_28) | exact kH_d h6 c_13 c_18 c_46 (Or.inr c_36)) hP hD hS
        · have c_46 : (tr t).1 = 5 := (nI_eq (a := (tr t).1) (b := 5) (by omega) (by omega)).mp c_46
          refine lv_iconst (v := nI 4) zx zb dX12_holds_49 (by decide) ?_
          refine lv_goto (tgt := 55) zx zb dX12_holds_50 (by decide) ?_
          exact fin _ _ (nI 4) () 55 _ dX12_holds_55 (fun h => by cases h) (by first | exact kH_a (Or.inl c_13) | exact kH_a (Or.inr c_18) | exact kH_b c_28 c_36 | exact kH_c c_46 | exact kH_d h6 c_13 c_18 c_46 (Or.inl c_28) | exact kH_d h6 c_13 c_18 c_46 (Or.inr c_36)) hP hD hS
      · have c_28 : (tr t).1 = 2 := (nI_eq (a := (tr t).1) (b := 2) (by omega) (by omega)).mp c_28
        refine lv_aload_n zx zb dX12_holds_31 rfl (lv_at hl 1 rfl) ?_
        refine lv_iload_n zx zb dX12_holds_32 rfl (lv_at hl 3 rfl) ?_
        refine call_Vi (As := [.int z]) (rest := []) XX cv_X12_184 (c_X12_isSpring Γ l m M b C tr Y pc P z (hr) (hI)) hP hD hS hA [0, 1] (by decide) rfl (fun _ => rfl) 0 0 rfl rfl rfl rfl hl.1 rfl ⟨⟨by decide, by decide⟩, by decide, by decide⟩ (Nat.le_of_ble_eq_true rfl) dX12_holds_33 (fun r_33 u H locs hw hP hD hS => ?_)
        have hw := hw.symm
        subst hw
        have hP : bP Γ [bMo Γ m M, bA Γ (m 1) 259 b] H := hP
        have hD : bD AA [bMo Γ m M, bA Γ (m 1) 259 b] := hD
        refine lv_if_eq (tgt := 44) zx zb dX12_holds_36 (by decide) (fun c_36 => ?_) (fun c_36 => ?_)
        · have c_36 : (coSpring C z) = false := bI_0.mp c_36
          refine lv_iload_n zx zb dX12_holds_44 rfl (lv_at hl 0 rfl) ?_
          refine lv_iconst (v := nI 5) zx zb dX12_holds_45 (by decide) ?_
          refine lv_icmp_ne (tgt := 53) zx zb dX12_holds_46 (by decide) (fun c_46 => ?_) (fun c_46 => ?_)
          · have c_46 : ¬ ((tr t).1 = 5) := fun h => c_46 ((nI_eq (a := (tr t).1) (b := 5) (by omega) (by omega)).mpr h)
            refine lv_bipush (v := nI 8) zx zb dX12_holds_53 (by decide) ?_
            exact fin _ _ (nI 8) () 55 _ dX12_holds_55 (fun h => by cases h) (by first | exact kH_a (Or.inl c_13) | exact kH_a (Or.inr c_18) | exact kH_b c_28 c_36 | exact kH_c c_46 | exact kH_d h6 c_13 c_18 c_46 (Or.inl c_28) | exact kH_d h6 c_13 c_18 c_46 (Or.inr c_36)) hP hD hS
          · have c_46 : (tr t).1 = 5 := (nI_eq (a := (tr t).1) (b := 5) (by omega) (by omega)).mp c_46
            refine lv_iconst (v := nI 4) zx zb dX12_holds_49 (by decide) ?_
            refine lv_goto (tgt := 55) zx zb dX12_holds_50 (by decide) ?_
            exact fin _ _ (nI 4) () 55 _ dX12_holds_55 (fun h => by cases h) (by first | exact kH_a (Or.inl c_13) | exact kH_a (Or.inr c_18) | exact kH_b c_28 c_36 | exact kH_c c_46 | exact kH_d h6 c_13 c_18 c_46 (Or.inl c_28) | exact kH_d h6 c_13 c_18 c_46 (Or.inr c_36)) hP hD hS
        · have c_36 : (coSpring C z) = true := bI_ne c_36
          refine lv_bipush (v := nI 15) zx zb dX12_holds_39 (by decide) ?_
          refine lv_goto (tgt := 55) zx zb dX12_holds_41 (by decide) ?_
          exact fin _ _ (nI 15) () 55 _ dX12_holds_55 (fun h => by cases h) (by first | exact kH_a (Or.inl c_13) | exact kH_a (Or.inr c_18) | exact kH_b c_28 c_36 | exact kH_c c_46 | exact kH_d h6 c_13 c_18 c_46 (Or.inl c_28) | exact kH_d h6 c_13 c_18 c_46 (Or.inr c_36)) hP hD hS
    · have c_18 : (tr t).1 = 4 := (nI_eq (a := (tr t).1) (b := 4) (by omega) (by omega)).mp c_18
      refine lv_bipush (v := nI 11) zx zb dX12_holds_21 (by decide) ?_
      refine lv_goto (tgt := 55) zx zb dX12_holds_23 (by decide) ?_
      exact fin _ _ (nI 11) () 55 _ dX12_holds_55 (fun h => by cases h) (by first | exact kH_a (Or.inl c_13) | exact kH_a (Or.inr c_18) | exact kH_b c_28 c_36 | exact kH_c c_46 | exact kH_d h6 c_13 c_18 c_46 (Or.inl c_28) | exact kH_d h6 c_13 c_18 c_46 (Or.inr c_36)) hP hD hS

set_option maxHeartbeats 4000000 in
set_option maxRecDepth 100000 in
theorem c_X12_costs (Γ : GG) (l : Launch) (m : Nat → Nat) (M : MoV) (b : Nat → Int32) (C : CoV) (tr : Nat → TrV) (Y : YrV) (pc : Nat) (P : Nat → YrV) (t : Nat) (hr : Rel b C tr Y pc P) (hI : Inv C tr Y) (ht : t < C.2.2.2.2.2.2.1) : Ci Γ l yX12_costs cX12_costs 4 (some (.int)) 1 21 0 0 [.ref (m 0), .int (nI t)] [bMo Γ m M, bA Γ (m 1) 259 b] (fun (r : Int32) (u : Unit) => r = tCosts (tr t)) (fun (u : Unit) => [bMo Γ m M, bA Γ (m 1) 259 b]) := by
  refine Ci.of (Or.inl rfl) (by decide) (Nat.le_of_ble_eq_true rfl) ?_
  intro pp ee ss mm bb me cd AA QQ XX hnm hA hP hD fin ls hl
  obtain ⟨zx, zb, hml, hown, hts, hK⟩ := id XX
  have hS : va_S AA ss.heap ss.heap [] := va_S.rf
  have hl : lv_has ls 4 [(0, .ref (m 0)), (1, .int (nI t))] := hl
  have htc := inv_tc hI
  have h6 := inv_kd hI t (by omega)
  refine lv_aload_n zx zb dX12_costs_0 rfl (lv_at hl 0 rfl) ?_
  refine g_get (v := .ref (m 1)) XX hP 0 0 rfl rfl rfl iwX12 0 (by decide) fl_X12_7 rfl dX12_costs_1 ?_
  refine lv_iload_n zx zb dX12_costs_4 rfl (lv_at hl 1 rfl) ?_
  refine lv_iconst (v := nI 0) zx zb dX12_costs_5 (by decide) ?_
  refine callR_Si (As := [.int (nI t), .int (nI 0)]) (rest := [.ref (m 1)]) XX cs_X12_96 (c_X12_of0 Γ l t 0 ) hP hD hS hA nil_mem nil_D rfl hl.1 rfl ⟨⟨by decide, by decide⟩, by decide, by decide⟩ (Nat.le_of_ble_eq_true rfl) dX12_costs_6 (fun r_6 H locs hw hP hS => ?_)
  have hw := hw.symm
  subst hw
  refine g_ialdN (i := 55 + 7 * t + 0) XX hP 1 0 rfl rfl (by omega) (by decide) dX12_costs_9 ?_
  refine g_top (y := nI ((tr t).1)) (Rel.t0 hr (by omega)) ?_
  refine lv_istore_n (lv' := [(2, .int (nI ((tr t).1))), (0, .ref (m 0)), (1, .int (nI t))]) zx zb dX12_costs_10 rfl hl (by decide) rfl (fun ls hl => ?_)
  refine lv_aload_n zx zb dX12_costs_11 rfl (lv_at hl 1 rfl) ?_
  refine g_get (v := .ref (m 1)) XX hP 0 0 rfl rfl rfl iwX12 0 (by decide) fl_X12_7 rfl dX12_costs_12 ?_
  refine lv_iload_n zx zb dX12_costs_15 rfl (lv_at hl 2 rfl) ?_
  refine lv_iconst (v := nI 5) zx zb dX12_costs_16 (by decide) ?_
  refine callR_Si (As := [.int (nI t), .int (nI 5)]) (rest := [.ref (m 1)]) XX cs_X12_96 (c_X12_of0 Γ l t 5 ) hP hD hS hA nil_mem nil_D rfl hl.1 rfl ⟨⟨by decide, by decide⟩, by decide, by decide⟩ (Nat.le_of_ble_eq_true rfl) dX12_costs_17 (fun r_17 H locs hw hP hS => ?_)
  have hw := hw.symm
  subst hw
  refine g_ialdN (i := 55 + 7 * t + 5) XX hP 1 0 rfl rfl (by omega) (by decide) dX12_costs_20 ?_
  refine g_top (y := (tr t).2.2.2.2.2.2.1) (Rel.t5 hr (by omega)) ?_
  refine lv_istore_n (lv' := [(3, .int ((tr t).2.2.2.2.2.2.1)), (2, .int (nI ((tr t).1))), (0, .ref (m 0)), (1, .int (nI t))]) zx zb dX12_costs_21 rfl hl (by decide) rfl (fun ls hl => ?_)
  refine lv_iload_n zx zb dX12_costs_22 rfl (lv_at hl 1 rfl) ?_
  refine lv_iconst (v := nI 3) zx zb dX12_costs_23 (by decide) ?_
  refine lv_icmp_ne (tgt := 33) zx zb dX12_costs_24 (by decide) (fun c_24 => ?_) (fun c_24 => ?_)
  · have c_24 : ¬ ((tr t).1 = 3) := fun h => c_24 ((nI_eq (a := (tr t).1) (b := 3) (by omega) (by omega)).mpr h)
    refine lv_iload_n zx zb dX12_costs_33 rfl (lv_at hl 1 rfl) ?_
    refine lv_iconst (v := nI 4) zx zb dX12_costs_34 (by decide) ?_
    refine lv_icmp_ne (tgt := 44) zx zb dX12_costs_35 (by decide) (fun c_35 => ?_) (fun c_35 => ?_)
    · have c_35 : ¬ ((tr t).1 = 4) := fun h => c_35 ((nI_eq (a := (tr t).1) (b := 4) (by omega) (by omega)).mpr h)
      refine lv_iload_n zx zb dX12_costs_44 rfl (lv_at hl 1 rfl) ?_
      refine lv_iconst (v := nI 5) zx zb dX12_costs_45 (by decide) ?_
      refine lv_icmp_ne (tgt := 57) zx zb dX12_costs_46 (by decide) (fun c_46 => ?_) (fun c_46 => ?_)
      · have c_46 : ¬ ((tr t).1 = 5) := fun h => c_46 ((nI_eq (a := (tr t).1) (b := 5) (by omega) (by omega)).mpr h)
        refine lv_iload_n zx zb dX12_costs_57 rfl (lv_at hl 0 rfl) ?_
        exact fin _ _ ((tr t).2.2.2.2.2.2.1) () 58 _ dX12_costs_58 (fun h => by cases h) (by rw [← inv_cs hI (show t < 6 by omega)]; first | (rw [c_24]; rfl) | (rw [c_35]; rfl) | (rw [c_46]; exact kC_5) | exact kC_0 h6 c_24 c_35 c_46) hP hD hS
      · have c_46 : (tr t).1 = 5 := (nI_eq (a := (tr t).1) (b := 5) (by omega) (by omega)).mp c_46
        refine lv_iload_n zx zb dX12_costs_49 rfl (lv_at hl 0 rfl) ?_
        refine lv_iconst (v := nI 2) zx zb dX12_costs_50 (by decide) ?_
        refine lv_iadd zx zb dX12_costs_51 ?_
        refine g_top (y := ((tr t).2.2.2.2.2.2.1) + 2) rfl ?_
        refine lv_iconst (v := nI 2) zx zb dX12_costs_52 (by decide) ?_
        refine lv_idiv zx zb dX12_costs_53 (by decide) ?_
        refine g_top (y := (((tr t).2.2.2.2.2.2.1) + 2) / 2) rfl ?_
        refine lv_goto (tgt := 58) zx zb dX12_costs_54 (by decide) ?_
        exact fin _ _ ((((tr t).2.2.2.2.2.2.1) + 2) / 2) () 58 _ dX12_costs_58 (fun h => by cases h) (by rw [← inv_cs hI (show t < 6 by omega)]; first | (rw [c_24]; rfl) | (rw [c_35]; rfl) | (rw [c_46]; exact kC_5) | exact kC_0 h6 c_24 c_35 c_46) hP hD hS
    · have c_35 : (tr t).1 = 4 := (nI_eq (a := (tr t).1) (b := 4) (by omega) (by omega)).mp c_35
      refine lv_iconst (v := nI 2) zx zb dX12_costs_38 (by decide) ?_
      refine lv_iload_n zx zb dX12_costs_39 rfl (lv_at hl 0 rfl) ?_
      refine lv_imul zx zb dX12_costs_40 ?_
      refine g_top (y := 2 * ((tr t).2.2.2.2.2.2.1)) rfl ?_
      refine lv_goto (tgt := 58) zx zb dX12_costs_41 (by decide) ?_
      exact fin _ _ (2 * ((tr t).2.2.2.2.2.2.1)) () 58 _ dX12_costs_58 (fun h => by cases h) (by rw [← inv_cs hI (show t < 6 by omega)]; first | (rw [c_24]; rfl) | (rw [c_35]; rfl) | (rw [c_46]; exact kC_5) | exact kC_0 h6 c_24 c_35 c_46) hP hD hS
  · have c_24 : (tr t).1 = 3 := (nI_eq (a := (tr t).1) (b := 3) (by omega) (by omega)).mp c_24
    refine lv_iload_n zx zb dX12_costs_27 rfl (lv_at hl 0 rfl) ?_
    refine lv_iconst (v := nI 1) zx zb dX12_costs_28 (by decide) ?_
    refine lv_iadd zx zb dX12_costs_29 ?_
    refine g_top (y := ((tr t).2.2.2.2.2.2.1) + 1) rfl ?_
    refine lv_goto (tgt := 58) zx zb dX12_costs_30 (by decide) ?_
    exact fin _ _ (((tr t).2.2.2.2.2.2.1) + 1) () 58 _ dX12_costs_58 (fun h => by cases h) (by rw [← inv_cs hI (show t < 6 by omega)]; first | (rw [c_24]; rfl) | (rw [c_35]; rfl) | (rw [c_46]; exact kC_5) | exact kC_0 h6 c_24 c_35 c_46) hP hD hS

set_option maxHeartbeats 4000000 in
set_option maxRecDepth 100000 in
theorem c_X12_dueOf (Γ : GG) (l : Launch) (m : Nat → Nat) (M : MoV) (b : Nat → Int32) (C : CoV) (tr : Nat → TrV) (Y : YrV) (pc : Nat) (P : Nat → YrV) (t : Nat) (z : Int32) (hr : Rel b C tr Y pc P) (hI : Inv C tr Y) (ht : t < C.2.2.2.2.2.2.1) (hz : ∃ y : Nat, y < 2 ^ 31 ∧ z = nI y) : Ci Γ l yX12_dueOf cX12_dueOf 5 (some (.int)) 2 44 0 0 [.ref (m 0), .int (nI t), .int z] [bMo Γ m M, bA Γ (m 1) 259 b] (fun (r : Int32) (u : Unit) => r = kDue (tr t).1 (tCosts (tr t)) z) (fun (u : Unit) => [bMo Γ m M, bA Γ (m 1) 259 b]) := by
  refine Ci.of (Or.inl rfl) (by decide) (Nat.le_of_ble_eq_true rfl) ?_
  intro pp ee ss mm bb me cd AA QQ XX hnm hA hP hD fin ls hl
  obtain ⟨zx, zb, hml, hown, hts, hK⟩ := id XX
  have hS : va_S AA ss.heap ss.heap [] := va_S.rf
  have hl : lv_has ls 5 [(0, .ref (m 0)), (1, .int (nI t)), (2, .int z)] := hl
  have htc := inv_tc hI
  have h6 := inv_kd hI t (by omega)
  obtain ⟨j, hj, rfl⟩ := hz
  refine lv_aload_n zx zb dX12_dueOf_0 rfl (lv_at hl 0 rfl) ?_
  refine g_get (v := .ref (m 1)) XX hP 0 0 rfl rfl rfl iwX12 0 (by decide) fl_X12_7 rfl dX12_dueOf_1 ?_
  refine lv_iload_n zx zb dX12_dueOf_4 rfl (lv_at hl 1 rfl) ?_
  refine lv_iconst (v := nI 0) zx zb dX12_dueOf_5 (by decide) ?_
  refine callR_Si (As := [.int (nI t), .int (nI 0)]) (rest := [.ref (m 1)]) XX cs_X12_96 (c_X12_of0 Γ l t 0 ) hP hD hS hA nil_mem nil_D rfl hl.1 rfl ⟨⟨by decide, by decide⟩, by decide, by decide⟩ (Nat.le_of_ble_eq_true rfl) dX12_dueOf_6 (fun r_6 H locs hw hP hS => ?_)
  have hw := hw.symm
  subst hw
  refine g_ialdN (i := 55 + 7 * t + 0) XX hP 1 0 rfl rfl (by omega) (by decide) dX12_dueOf_9 ?_
  refine g_top (y := nI ((tr t).1)) (Rel.t0 hr (by omega)) ?_
  refine lv_istore_n (lv' := [(3, .int (nI ((tr t).1))), (0, .ref (m 0)), (1, .int (nI t)), (2, .int (nI j))]) zx zb dX12_dueOf_10 rfl hl (by decide) rfl (fun ls hl => ?_)
  refine lv_iload_n zx zb dX12_dueOf_11 rfl (lv_at hl 0 rfl) ?_
  refine lv_iconst (v := nI 3) zx zb dX12_dueOf_12 (by decide) ?_
  refine lv_icmp_eq (tgt := 21) zx zb dX12_dueOf_13 (by decide) (fun c_13 => ?_) (fun c_13 => ?_)
  · have c_13 : (tr t).1 = 3 := (nI_eq (a := (tr t).1) (b := 3) (by omega) (by omega)).mp c_13
    refine lv_iconst (v := nI 1) zx zb dX12_dueOf_21 (by decide) ?_
    refine lv_goto (tgt := 26) zx zb dX12_dueOf_22 (by decide) ?_
    refine lv_istore (lv' := [(4, .int (nI 1)), (3, .int (nI ((tr t).1))), (0, .ref (m 0)), (1, .int (nI t)), (2, .int (nI j))]) zx zb dX12_dueOf_26 hl (by decide) rfl (fun ls hl => ?_)
    refine lv_iload zx zb dX12_dueOf_28 (lv_at hl 0 rfl) ?_
    refine lv_if_eq (tgt := 54) zx zb dX12_dueOf_30 (by decide) (fun c_30 => ?_) (fun c_30 => ?_)
    · exact absurd c_30 (by decide)
    · clear c_30
      refine lv_iload_n zx zb dX12_dueOf_33 rfl (lv_at hl 4 rfl) ?_
      refine lv_iconst (v := nI 2) zx zb dX12_dueOf_34 (by decide) ?_
      refine lv_irem zx zb dX12_dueOf_35 (by decide) ?_
      refine g_top (y := (nI j) - (nI j) / 2 * 2) rfl ?_
      refine g_top (y := nI (j % 2)) (rem2 hj) ?_
      refine lv_iconst (v := nI 1) zx zb dX12_dueOf_36 (by decide) ?_
      refine lv_icmp_ne (tgt := 50) zx zb dX12_dueOf_37 (by decide) (fun c_37 => ?_) (fun c_37 => ?_)
      · have c_37 : ¬ (j % 2 = 1) := fun h => c_37 ((nI_eq (a := j % 2) (b := 1) (by omega) (by omega)).mpr h)
        refine lv_iconst (v := nI 0) zx zb dX12_dueOf_50 (by decide) ?_
        refine lv_goto (tgt := 59) zx zb dX12_dueOf_51 (by decide) ?_
        exact fin _ _ (nI 0) () 59 _ dX12_dueOf_59 (fun h => by cases h) (by first | exact kD_a (Or.inl c_13) hj c_37 | exact kD_a (Or.inr c_18) hj c_37 | exact kD_b (Or.inl c_13) hj c_37 | exact kD_b (Or.inr c_18) hj c_37 | exact kD_0 h6 c_13 c_18) hP hD hS
      · have c_37 : j % 2 = 1 := (nI_eq (a := j % 2) (b := 1) (by omega) (by omega)).mp c_37
        refine lv_iconst (v := nI 2) zx zb dX12_dueOf_40 (by decide) ?_
        refine lv_aload_n zx zb dX12_dueOf_41 rfl (lv_at hl 2 rfl) ?_
        refine lv_iload_n zx zb dX12_dueOf_42 rfl (lv_at hl 3 rfl) ?_
        refine call_Vi (As := [.int (nI t)]) (rest := [.int (nI 2)]) XX cv_X12_187 (c_X12_costs Γ l m M b C tr Y pc P t (hr) (hI) (ht)) hP hD hS hA [0, 1] (by decide) rfl (fun _ => rfl) 0 0 rfl rfl rfl rfl hl.1 rfl ⟨⟨by decide, by decide⟩, by decide, by decide⟩ (Nat.le_of_ble_eq_true rfl) dX12_dueOf_43 (fun r_43 u H locs hw hP hD hS => ?_)
        have hw := hw.symm
        subst hw
        have hP : bP Γ [bMo Γ m M, bA Γ (m 1) 259 b] H := hP
        have hD : bD AA [bMo Γ m M, bA Γ (m 1) 259 b] := hD
        refine lv_imul zx zb dX12_dueOf_46 ?_
        refine g_top (y := 2 * (tCosts (tr t))) rfl ?_
        refine lv_goto (tgt := 59) zx zb dX12_dueOf_47 (by decide) ?_
        exact fin _ _ (2 * (tCosts (tr t))) () 59 _ dX12_dueOf_59 (fun h => by cases h) (by first | exact kD_a (Or.inl c_13) hj c_37 | exact kD_a (Or.inr c_18) hj c_37 | exact kD_b (Or.inl c_13) hj c_37 | exact kD_b (Or.inr c_18) hj c_37 | exact kD_0 h6 c_13 c_18) hP hD hS
  · have c_13 : ¬ ((tr t).1 = 3) := fun h => c_13 ((nI_eq (a := (tr t).1) (b := 3) (by omega) (by omega)).mpr h)
    refine lv_iload_n zx zb dX12_dueOf_16 rfl (lv_at hl 0 rfl) ?_
    refine lv_iconst (v := nI 5) zx zb dX12_dueOf_17 (by decide) ?_
    refine lv_icmp_ne (tgt := 25) zx zb dX12_dueOf_18 (by decide) (fun c_18 => ?_) (fun c_18 => ?_)
    · have c_18 : ¬ ((tr t).1 = 5) := fun h => c_18 ((nI_eq (a := (tr t).1) (b := 5) (by omega) (by omega)).mpr h)
      refine lv_iconst (v := nI 0) zx zb dX12_dueOf_25 (by decide) ?_
      refine lv_istore (lv' := [(4, .int (nI 0)), (3, .int (nI ((tr t).1))), (0, .ref (m 0)), (1, .int (nI t)), (2, .int (nI j))]) zx zb dX12_dueOf_26 hl (by decide) rfl (fun ls hl => ?_)
      refine lv_iload zx zb dX12_dueOf_28 (lv_at hl 0 rfl) ?_
      refine lv_if_eq (tgt := 54) zx zb dX12_dueOf_30 (by decide) (fun c_30 => ?_) (fun c_30 => ?_)
      · clear c_30
        refine lv_aload_n zx zb dX12_dueOf_54 rfl (lv_at hl 2 rfl) ?_
        refine lv_iload_n zx zb dX12_dueOf_55 rfl (lv_at hl 3 rfl) ?_
        refine call_Vi (As := [.int (nI t)]) (rest := []) XX cv_X12_187 (c_X12_costs Γ l m M b C tr Y pc P t (hr) (hI) (ht)) hP hD hS hA [0, 1] (by decide) rfl (fun _ => rfl) 0 0 rfl rfl rfl rfl hl.1 rfl ⟨⟨by decide, by decide⟩, by decide, by decide⟩ (Nat.le_of_ble_eq_true rfl) dX12_dueOf_56 (fun r_56 u H locs hw hP hD hS => ?_)
        have hw := hw.symm
        subst hw
        have hP : bP Γ [bMo Γ m M, bA Γ (m 1) 259 b] H := hP
        have hD : bD AA [bMo Γ m M, bA Γ (m 1) 259 b] := hD
        exact fin _ _ (tCosts (tr t)) () 59 _ dX12_dueOf_59 (fun h => by cases h) (by first | exact kD_a (Or.inl c_13) hj c_37 | exact kD_a (Or.inr c_18) hj c_37 | exact kD_b (Or.inl c_13) hj c_37 | exact kD_b (Or.inr c_18) hj c_37 | exact kD_0 h6 c_13 c_18) hP hD hS
      · exact absurd c_30 (by decide)
    · have c_18 : (tr t).1 = 5 := (nI_eq (a := (tr t).1) (b := 5) (by omega) (by omega)).mp c_18
      refine lv_iconst (v := nI 1) zx zb dX12_dueOf_21 (by decide) ?_
      refine lv_goto (tgt := 26) zx zb dX12_dueOf_22 (by decide) ?_
      refine lv_istore (lv' := [(4, .int (nI 1)), (3, .int (nI ((tr t).1))), (0, .ref (m 0)), (1, .int (nI t)), (2, .int (nI j))]) zx zb dX12_dueOf_26 hl (by decide) rfl (fun ls hl => ?_)
      refine lv_iload zx zb dX12_dueOf_28 (lv_at hl 0 rfl) ?_
      refine lv_if_eq (tgt := 54) zx zb dX12_dueOf_30 (by decide) (fun c_30 => ?_) (fun c_30 => ?_)
      · exact absurd c_30 (by decide)
      · clear c_30
        refine lv_iload_n zx zb dX12_dueOf_33 rfl (lv_at hl 4 rfl) ?_
        refine lv_iconst (v := nI 2) zx zb dX12_dueOf_34 (by decide) ?_
        refine lv_irem zx zb dX12_dueOf_35 (by decide) ?_
        refine g_top (y := (nI j) - (nI j) / 2 * 2) rfl ?_
        refine g_top (y := nI (j % 2)) (rem2 hj) ?_
        refine lv_iconst (v := nI 1) zx zb dX12_dueOf_36 (by decide) ?_
        refine lv_icmp_ne (tgt := 50) zx zb dX12_dueOf_37 (by decide) (fun c_37 => ?_) (fun c_37 => ?_)
        · have c_37 : ¬ (j % 2 = 1) := fun h => c_37 ((nI_eq (a := j % 2) (b := 1) (by omega) (by omega)).mpr h)
          refine lv_iconst (v := nI 0) zx zb dX12_dueOf_50 (by decide) ?_
          refine lv_goto (tgt := 59) zx zb dX12_dueOf_51 (by decide) ?_
          exact fin _ _ (nI 0) () 59 _ dX12_dueOf_59 (fun h => by cases h) (by first | exact kD_a (Or.inl c_13) hj c_37 | exact kD_a (Or.inr c_18) hj c_37 | exact kD_b (Or.inl c_13) hj c_37 | exact kD_b (Or.inr c_18) hj c_37 | exact kD_0 h6 c_13 c_18) hP hD hS
        · have c_37 : j % 2 = 1 := (nI_eq (a := j % 2) (b := 1) (by omega) (by omega)).mp c_37
          refine lv_iconst (v := nI 2) zx zb dX12_dueOf_40 (by decide) ?_
          refine lv_aload_n zx zb dX12_dueOf_41 rfl (lv_at hl 2 rfl) ?_
          refine lv_iload_n zx zb dX12_dueOf_42 rfl (lv_at hl 3 rfl) ?_
          refine call_Vi (As := [.int (nI t)]) (rest := [.int (nI 2)]) XX cv_X12_187 (c_X12_costs Γ l m M b C tr Y pc P t (hr) (hI) (ht)) hP hD hS hA [0, 1] (by decide) rfl (fun _ => rfl) 0 0 rfl rfl rfl rfl hl.1 rfl ⟨⟨by decide, by decide⟩, by decide, by decide⟩ (Nat.le_of_ble_eq_true rfl) dX12_dueOf_43 (fun r_43 u H locs hw hP hD hS => ?_)
          have hw := hw.symm
          subst hw
          have hP : bP Γ [bMo Γ m M, bA Γ (m 1) 259 b] H := hP
          have hD : bD AA [bMo Γ m M, bA Γ (m 1) 259 b] := hD
          refine lv_imul zx zb dX12_dueOf_46 ?_
          refine g_top (y := 2 * (tCosts (tr t))) rfl ?_
          refine lv_goto (tgt := 59) zx zb dX12_dueOf_47 (by decide) ?_
          exact fin _ _ (2 * (tCosts (tr t))) () 59 _ dX12_dueOf_59 (fun h => by cases h) (by first | exact kD_a (Or.inl c_13) hj c_37 | exact kD_a (Or.inr c_18) hj c_37 | exact kD_b (Or.inl c_13) hj c_37 | exact kD_b (Or.inr c_18) hj c_37 | exact kD_0 h6 c_13 c_18) hP hD hS

set_option maxHeartbeats 4000000 in
set_option maxRecDepth 100000 in
theorem c_X12_isOf (Γ : GG) (l : Launch) (m : Nat → Nat) (M : MoV) (b : Nat → Int32) (C : CoV) (tr : Nat → TrV) (Y : YrV) (pc : Nat) (P : Nat → YrV) (t : Nat) (z : Int32) (hr : Rel b C tr Y pc P) (hI : Inv C tr Y) (ht : t < C.2.2.2.2.2.2.1) : Ci Γ l yX12_isOf cX12_isOf 3 (some (.boolean)) 1 25 0 0 [.ref (m 0), .int (nI t), .int z] [bMo Γ m M, bA Γ (m 1) 259 b] (fun (r : Int32) (u : Unit) => r = bI (!yrBr Y t && trRuns (tr t) z)) (fun (u : Unit) => [bMo Γ m M, bA Γ (m 1) 259 b]) := by
  refine Ci.of (Or.inr rfl) (by decide) (Nat.le_of_ble_eq_true rfl) ?_
  intro pp ee ss mm bb me cd AA QQ XX hnm hA hP hD fin ls hl
  obtain ⟨zx, zb, hml, hown, hts, hK⟩ := id XX
  have hS : va_S AA ss.heap ss.heap [] := va_S.rf
  have hl : lv_has ls 3 [(0, .ref (m 0)), (1, .int (nI t)), (2, .int z)] := hl
  have htc := inv_tc hI
  refine lv_aload_n zx zb dX12_isOf_0 rfl (lv_at hl 0 rfl) ?_
  refine g_get (v := .ref (m 1)) XX hP 0 0 rfl rfl rfl iwX12 0 (by decide) fl_X12_7 rfl dX12_isOf_1 ?_
  refine lv_iload_n zx zb dX12_isOf_4 rfl (lv_at hl 1 rfl) ?_
  refine lv_bipush (v := nI 6) zx zb dX12_isOf_5 (by decide) ?_
  refine callR_Si (As := [.int (nI t), .int (nI 6)]) (rest := [.ref (m 1)]) XX cs_X12_96 (c_X12_of0 Γ l t 6 ) hP hD hS hA nil_mem nil_D rfl hl.1 rfl ⟨⟨by decide, by decide⟩, by decide, by decide⟩ (Nat.le_of_ble_eq_true rfl) dX12_isOf_7 (fun r_7 H locs hw hP hS => ?_)
  have hw := hw.symm
  subst hw
  refine g_ialdN (i := 55 + 7 * t + 6) XX hP 1 0 rfl rfl (by omega) (by decide) dX12_isOf_10 ?_
  refine g_top (y := bI (yrBr Y t)) (Rel.t6 hr (by omega)) ?_
  refine lv_if_ne (tgt := 50) zx zb dX12_isOf_11 (by decide) (fun c_11 => ?_) (fun c_11 => ?_)
  · have c_11 : (yrBr Y t) = true := bI_ne c_11
    refine lv_iconst (v := nI 0) zx zb dX12_isOf_50 (by decide) ?_
    exact fin _ _ (nI 0) () 51 _ dX12_isOf_51 (fun _ => nar0) (by first | exact retT (by rw [← runs_eq hI ht]; first | (rw [c_11, c_43]; rfl) | (rw [c_11]; rfl)) | exact retF (by rw [← runs_eq hI ht]; first | (rw [c_11, c_43]; rfl) | (rw [c_11]; rfl))) hP hD hS
  · have c_11 : (yrBr Y t) = false := bI_0.mp c_11
    refine lv_iload_n zx zb dX12_isOf_14 rfl (lv_at hl 2 rfl) ?_
    refine lv_i2l (v := z.toInt64) zx zb dX12_isOf_15 rfl ?_
    refine lv_aload_n zx zb dX12_isOf_16 rfl (lv_at hl 0 rfl) ?_
    refine g_get (v := .ref (m 1)) XX hP 0 0 rfl rfl rfl iwX12 0 (by decide) fl_X12_7 rfl dX12_isOf_17 ?_
    refine lv_iload_n zx zb dX12_isOf_20 rfl (lv_at hl 1 rfl) ?_
    refine lv_iconst (v := nI 3) zx zb dX12_isOf_21 (by decide) ?_
    refine callR_Si (As := [.int (nI t), .int (nI 3)]) (rest := [.ref (m 1), .long z.toInt64]) XX cs_X12_96 (c_X12_of0 Γ l t 3 ) hP hD hS hA nil_mem nil_D rfl hl.1 rfl ⟨⟨by decide, by decide⟩, by decide, by decide⟩ (Nat.le_of_ble_eq_true rfl) dX12_isOf_22 (fun r_22 H locs hw hP hS => ?_)
    have hw := hw.symm
    subst hw
    refine g_ialdN (i := 55 + 7 * t + 3) XX hP 1 0 rfl rfl (by omega) (by decide) dX12_isOf_25 ?_
    refine g_top (y := (tr t).2.2.2.2.1) (Rel.t3 hr (by omega)) ?_
    refine lv_i2l (v := ((tr t).2.2.2.2.1).toInt64) zx zb dX12_isOf_26 rfl ?_
    refine lv_aload_n zx zb dX12_isOf_27 rfl (lv_at hl 0 rfl) ?_
    refine g_get (v := .ref (m 1)) XX hP 0 0 rfl rfl rfl iwX12 0 (by decide) fl_X12_7 rfl dX12_isOf_28 ?_
    refine lv_iload_n zx zb dX12_isOf_31 rfl (lv_at hl 1 rfl) ?_
    refine lv_iconst (v := nI 4) zx zb dX12_isOf_32 (by decide) ?_
    refine callR_Si (As := [.int (nI t), .int (nI 4)]) (rest := [.ref (m 1), .long (((tr t).2.2.2.2.1).toInt64), .long z.toInt64]) XX cs_X12_96 (c_X12_of0 Γ l t 4 ) hP hD hS hA nil_mem nil_D rfl hl.1 rfl ⟨⟨by decide, by decide⟩, by decide, by decide⟩ (Nat.le_of_ble_eq_true rfl) dX12_isOf_33 (fun r_33 H locs hw hP hS => ?_)
    have hw := hw.symm
    subst hw
    refine g_ialdN (i := 55 + 7 * t + 4) XX hP 1 0 rfl rfl (by omega) (by decide) dX12_isOf_36 ?_
    refine g_top (y := (tr t).2.2.2.2.2.1) (Rel.t4 hr (by omega)) ?_
    refine lv_iconst (v := nI 1) zx zb dX12_isOf_37 (by decide) ?_
    refine lv_isub zx zb dX12_isOf_38 ?_
    refine g_top (y := ((tr t).2.2.2.2.2.1) - 1) rfl ?_
    refine lv_i2l (v := (((tr t).2.2.2.2.2.1) - 1).toInt64) zx zb dX12_isOf_39 rfl ?_
    refine callR_Si (As := [.long z.toInt64, .long (((tr t).2.2.2.2.1).toInt64), .long ((((tr t).2.2.2.2.2.1) - 1).toInt64)]) (rest := []) XX cs_X12_53 (c_X12_in Γ l z ((tr t).2.2.2.2.1) (((tr t).2.2.2.2.2.1) - 1) ) hP hD hS hA nil_mem nil_D rfl hl.1 rfl ⟨⟨by decide, by decide⟩, by decide, by decide⟩ (Nat.le_of_ble_eq_true rfl) dX12_isOf_40 (fun r_40 H locs hw hP hS => ?_)
    have hw := hw.symm
    subst hw
    refine lv_if_eq (tgt := 50) zx zb dX12_isOf_43 (by decide) (fun c_43 => ?_) (fun c_43 => ?_)
    · have c_43 : (wi z ((tr t).2.2.2.2.1) (((tr t).2.2.2.2.2.1) - 1)) = false := bI_0.mp c_43
      refine lv_iconst (v := nI 0) zx zb dX12_isOf_50 (by decide) ?_
      exact fin _ _ (nI 0) () 51 _ dX12_isOf_51 (fun _ => nar0) (by first | exact retT (by rw [← runs_eq hI ht]; first | (rw [c_11, c_43]; rfl) | (rw [c_11]; rfl)) | exact retF (by rw [← runs_eq hI ht]; first | (rw [c_11, c_43]; rfl) | (rw [c_11]; rfl))) hP hD hS
    · have c_43 : (wi z ((tr t).2.2.2.2.1) (((tr t).2.2.2.2.2.1) - 1)) = true := bI_ne c_43
      refine lv_iconst (v := nI 1) zx zb dX12_isOf_46 (by decide) ?_
      refine lv_goto (tgt := 51) zx zb dX12_isOf_47 (by decide) ?_
      exact fin _ _ (nI 1) () 51 _ dX12_isOf_51 (fun _ => nar1) (by first | exact retT (by rw [← runs_eq hI ht]; first | (rw [c_11, c_43]; rfl) | (rw [c_11]; rfl)) | exact retF (by rw [← runs_eq hI ht]; first | (rw [c_11, c_43]; rfl) | (rw [c_11]; rfl))) hP hD hS
