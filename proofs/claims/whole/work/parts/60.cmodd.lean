theorem cv_X12_215 : CWV RX12 215 RX12 yX12_stormOf cX12_stormOf 2 (some (.int)) 1 := ⟨cd_X12_stormOf, im_X12_stormOf, se_X12_X12_stormOf_X12_stormOf, in_X12, ml_X12_215, by decide +kernel⟩
theorem cv_X12_223 : CWV RX12 223 RX12 yX12_guardedNow cX12_guardedNow 1 (some (.int)) 0 := ⟨cd_X12_guardedNow, im_X12_guardedNow, se_X12_X12_guardedNow_X12_guardedNow, in_X12, ml_X12_223, by decide +kernel⟩
theorem cv_X12_226 : CWV RX12 226 RX12 yX12_wetNow cX12_wetNow 2 (some (.int)) 1 := ⟨cd_X12_wetNow, im_X12_wetNow, se_X12_X12_wetNow_X12_wetNow, in_X12, ml_X12_226, by decide +kernel⟩
theorem cv_X12_290 : CWV RX12 290 RX12 yX12_countOf cX12_countOf 2 (some (.int)) 1 := ⟨cd_X12_countOf, im_X12_countOf, se_X12_X12_countOf_X12_countOf, in_X12, ml_X12_290, by decide +kernel⟩
theorem cv_X12_59 : CWV RX12 59 RX12 yX12_bad cX12_bad 1 (some (.int)) 0 := ⟨cd_X12_bad, im_X12_bad, se_X12_X12_bad_X12_bad, in_X12, ml_X12_59, by decide +kernel⟩
set_option maxHeartbeats 4000000 in
set_option maxRecDepth 100000 in
theorem c_X12_guardedNow (Γ : GG) (l : Launch) (m : Nat → Nat) (M : MoV) (b : Nat → Int32) (C : CoV) (tr : Nat → TrV) (Y : YrV) (pc : Nat) (P : Nat → YrV) (hr : Rel b C tr Y pc P) (hI : Inv C tr Y) : Ci Γ l yX12_guardedNow cX12_guardedNow 1 (some (.int)) 3 73 0 0 [.ref (m 0)] [bMo Γ m M, bA Γ (m 1) 259 b] (fun (r : Int32) (u : Unit) => r = ttGu C tr Y) (fun (u : Unit) => [bMo Γ m M, bA Γ (m 1) 259 b]) := by
  refine Ci.of (Or.inl rfl) (by decide) (Nat.le_of_ble_eq_true rfl) ?_
  intro pp ee ss mm bb me cd AA QQ XX hnm hA hP hD fin ls hl
  obtain ⟨zx, zb, hml, hown, hts, hK⟩ := id XX
  have hS : va_S AA ss.heap ss.heap [] := va_S.rf
  have hl : lv_has ls 1 [(0, .ref (m 0))] := hl
  refine lv_aload_n zx zb dX12_guardedNow_0 rfl (lv_at hl 0 rfl) ?_
  refine lv_aload_n zx zb dX12_guardedNow_1 rfl (lv_at hl 0 rfl) ?_
  refine g_get (v := .ref (m 1)) XX hP 0 0 rfl rfl rfl iwX12 0 (by decide) fl_X12_7 rfl dX12_guardedNow_2 ?_
  refine lv_iconst (v := nI 1) zx zb dX12_guardedNow_5 (by decide) ?_
  refine g_ialdN (i := 1) XX hP 1 0 rfl rfl (by omega) (by decide) dX12_guardedNow_6 ?_
  refine g_top (y := Y.1) (Rel.y hr) ?_
  refine lv_aload_n zx zb dX12_guardedNow_7 rfl (lv_at hl 0 rfl) ?_
  refine lv_aload_n zx zb dX12_guardedNow_8 rfl (lv_at hl 0 rfl) ?_
  refine g_get (v := .ref (m 1)) XX hP 0 0 rfl rfl rfl iwX12 0 (by decide) fl_X12_7 rfl dX12_guardedNow_9 ?_
  refine lv_iconst (v := nI 1) zx zb dX12_guardedNow_12 (by decide) ?_
  refine g_ialdN (i := 1) XX hP 1 0 rfl rfl (by omega) (by decide) dX12_guardedNow_13 ?_
  refine g_top (y := Y.1) (Rel.y hr) ?_
  refine call_Vi (As := [.int Y.1]) (rest := [.int Y.1, .ref (m 0)]) XX cv_X12_215 (c_X12_stormOf Γ l m M b C tr Y pc P Y.1 (hr) (hI) (inv_y hI)) hP hD hS hA [0, 1] (by decide) rfl (fun _ => rfl) 0 0 rfl rfl rfl rfl hl.1 rfl ⟨⟨by decide, by decide⟩, by decide, by decide⟩ (Nat.le_of_ble_eq_true rfl) dX12_guardedNow_14 (fun r_14 u H locs hw hP hD hS => ?_)
  have hw := hw.symm
  subst hw
  have hP : bP Γ [bMo Γ m M, bA Γ (m 1) 259 b] H := hP
  have hD : bD AA [bMo Γ m M, bA Γ (m 1) 259 b] := hD
  refine call_Vi (As := [.int Y.1, .int (coStorm C Y.1)]) (rest := []) XX cv_X12_199 (c_X12_guardedBy Γ l m M b C tr Y pc P Y.1 (coStorm C Y.1) (hr) (hI) (rfl)) hP hD hS hA [0, 1] (by decide) rfl (fun _ => rfl) 0 0 rfl rfl rfl rfl hl.1 rfl ⟨⟨by decide, by decide⟩, by decide, by decide⟩ (Nat.le_of_ble_eq_true rfl) dX12_guardedNow_17 (fun r_17 u H locs hw hP hD hS => ?_)
  have hw := hw.symm
  subst hw
  have hP : bP Γ [bMo Γ m M, bA Γ (m 1) 259 b] H := hP
  have hD : bD AA [bMo Γ m M, bA Γ (m 1) 259 b] := hD
  exact fin _ _ (coGuards C tr Y (coStorm C Y.1) C.2.2.2.2.2.2.1) () 20 _ dX12_guardedNow_20 (fun h => by cases h) (rfl) hP hD hS

set_option maxHeartbeats 4000000 in
set_option maxRecDepth 100000 in
theorem c_X12_guarded (Γ : GG) (l : Launch) (m : Nat → Nat) (M : MoV) (b : Nat → Int32) (C : CoV) (tr : Nat → TrV) (Y : YrV) (pc : Nat) (P : Nat → YrV) (hr : Rel b C tr Y pc P) (hI : Inv C tr Y) : Ci Γ l yX12_guarded cX12_guarded 1 (some (.int)) 4 93 0 0 [.ref (m 0)] [bMo Γ m M, bA Γ (m 1) 259 b] (fun (r : Int32) (u : Unit) => r = ttGu C tr Y) (fun (u : Unit) => [bMo Γ m M, bA Γ (m 1) 259 b]) := by
  refine Ci.of (Or.inl rfl) (by decide) (Nat.le_of_ble_eq_true rfl) ?_
  intro pp ee ss mm bb me cd AA QQ XX hnm hA hP hD fin ls hl
  obtain ⟨zx, zb, hml, hown, hts, hK⟩ := id XX
  have hS : va_S AA ss.heap ss.heap [] := va_S.rf
  have hl : lv_has ls 1 [(0, .ref (m 0))] := hl
  refine lv_aload_n zx zb dX12_guarded_0 rfl (lv_at hl 0 rfl) ?_
  refine call_Vi (As := []) (rest := []) XX cv_X12_223 (c_X12_guardedNow Γ l m M b C tr Y pc P (hr) (hI)) hP hD hS hA [0, 1] (by decide) rfl (fun _ => rfl) 0 0 rfl rfl rfl rfl hl.1 rfl ⟨⟨by decide, by decide⟩, by decide, by decide⟩ (Nat.le_of_ble_eq_true rfl) dX12_guarded_1 (fun r_1 u H locs hw hP hD hS => ?_)
  have hw := hw.symm
  subst hw
  have hP : bP Γ [bMo Γ m M, bA Γ (m 1) 259 b] H := hP
  have hD : bD AA [bMo Γ m M, bA Γ (m 1) 259 b] := hD
  exact fin _ _ (ttGu C tr Y) () 4 _ dX12_guarded_4 (fun h => by cases h) (rfl) hP hD hS

set_option maxHeartbeats 4000000 in
set_option maxRecDepth 100000 in
theorem c_X12_wetNow (Γ : GG) (l : Launch) (m : Nat → Nat) (M : MoV) (b : Nat → Int32) (C : CoV) (tr : Nat → TrV) (Y : YrV) (pc : Nat) (P : Nat → YrV) (o : Int32) (e1 : Int32) (hr : Rel b C tr Y pc P) (hI : Inv C tr Y) (hb : ∀ x, x < C.1 → ∀ t, C.2.2.2.2.1 x = nI t → t < 16 → hasB e1 x = hasB o t) : Ci Γ l yX12_wetNow cX12_wetNow 2 (some (.int)) 4 93 0 0 [.ref (m 0), .int o] [bMo Γ m M, bA Γ (m 1) 259 b] (fun (r : Int32) (u : Unit) => r = ttWet C tr Y e1) (fun (u : Unit) => [bMo Γ m M, bA Γ (m 1) 259 b]) := by
  refine Ci.of (Or.inl rfl) (by decide) (Nat.le_of_ble_eq_true rfl) ?_
  intro pp ee ss mm bb me cd AA QQ XX hnm hA hP hD fin ls hl
  obtain ⟨zx, zb, hml, hown, hts, hK⟩ := id XX
  have hS : va_S AA ss.heap ss.heap [] := va_S.rf
  have hl : lv_has ls 2 [(0, .ref (m 0)), (1, .int o)] := hl
  refine lv_aload_n zx zb dX12_wetNow_0 rfl (lv_at hl 0 rfl) ?_
  refine lv_aload_n zx zb dX12_wetNow_1 rfl (lv_at hl 0 rfl) ?_
  refine lv_aload_n zx zb dX12_wetNow_2 rfl (lv_at hl 0 rfl) ?_
  refine g_get (v := .ref (m 1)) XX hP 0 0 rfl rfl rfl iwX12 0 (by decide) fl_X12_7 rfl dX12_wetNow_3 ?_
  refine lv_iconst (v := nI 1) zx zb dX12_wetNow_6 (by decide) ?_
  refine g_ialdN (i := 1) XX hP 1 0 rfl rfl (by omega) (by decide) dX12_wetNow_7 ?_
  refine g_top (y := Y.1) (Rel.y hr) ?_
  refine call_Vi (As := [.int Y.1]) (rest := [.ref (m 0)]) XX cv_X12_215 (c_X12_stormOf Γ l m M b C tr Y pc P Y.1 (hr) (hI) (inv_y hI)) hP hD hS hA [0, 1] (by decide) rfl (fun _ => rfl) 0 0 rfl rfl rfl rfl hl.1 rfl ⟨⟨by decide, by decide⟩, by decide, by decide⟩ (Nat.le_of_ble_eq_true rfl) dX12_wetNow_8 (fun r_8 u H locs hw hP hD hS => ?_)
  have hw := hw.symm
  subst hw
  have hP : bP Γ [bMo Γ m M, bA Γ (m 1) 259 b] H := hP
  have hD : bD AA [bMo Γ m M, bA Γ (m 1) 259 b] := hD
  refine lv_aload_n zx zb dX12_wetNow_11 rfl (lv_at hl 0 rfl) ?_
  refine call_Vi (As := []) (rest := [.int (coStorm C Y.1), .ref (m 0)]) XX cv_X12_223 (c_X12_guardedNow Γ l m M b C tr Y pc P (hr) (hI)) hP hD hS hA [0, 1] (by decide) rfl (fun _ => rfl) 0 0 rfl rfl rfl rfl hl.1 rfl ⟨⟨by decide, by decide⟩, by decide, by decide⟩ (Nat.le_of_ble_eq_true rfl) dX12_wetNow_12 (fun r_12 u H locs hw hP hD hS => ?_)
  have hw := hw.symm
  subst hw
  have hP : bP Γ [bMo Γ m M, bA Γ (m 1) 259 b] H := hP
  have hD : bD AA [bMo Γ m M, bA Γ (m 1) 259 b] := hD
  refine lv_iload_n zx zb dX12_wetNow_15 rfl (lv_at hl 1 rfl) ?_
  refine call_Vi (As := [.int (coStorm C Y.1), .int (ttGu C tr Y), .int o]) (rest := []) XX cv_X12_202 (c_X12_floods Γ l m M b C tr Y pc P (coStorm C Y.1) (ttGu C tr Y) o e1 (hr) (hI) (hb)) hP hD hS hA [0, 1] (by decide) rfl (fun _ => rfl) 0 0 rfl rfl rfl rfl hl.1 rfl ⟨⟨by decide, by decide⟩, by decide, by decide⟩ (Nat.le_of_ble_eq_true rfl) dX12_wetNow_16 (fun r_16 u H locs hw hP hD hS => ?_)
  have hw := hw.symm
  subst hw
  have hP : bP Γ [bMo Γ m M, bA Γ (m 1) 259 b] H := hP
  have hD : bD AA [bMo Γ m M, bA Γ (m 1) 259 b] := hD
  exact fin _ _ (coWater C Y.2.2.2.1 (coStorm C Y.1) (ttGu C tr Y) e1) () 19 _ dX12_wetNow_19 (fun h => by cases h) (rfl) hP hD hS

set_option maxHeartbeats 4000000 in
set_option maxRecDepth 100000 in
theorem c_X12_wet (Γ : GG) (l : Launch) (m : Nat → Nat) (M : MoV) (b : Nat → Int32) (C : CoV) (tr : Nat → TrV) (Y : YrV) (pc : Nat) (P : Nat → YrV) (hr : Rel b C tr Y pc P) (hI : Inv C tr Y) : Ci Γ l yX12_wet cX12_wet 1 (some (.int)) 5 114 0 0 [.ref (m 0)] [bMo Γ m M, bA Γ (m 1) 259 b] (fun (r : Int32) (u : Unit) => r = ttWet C tr Y 0) (fun (u : Unit) => [bMo Γ m M, bA Γ (m 1) 259 b]) := by
  refine Ci.of (Or.inl rfl) (by decide) (Nat.le_of_ble_eq_true rfl) ?_
  intro pp ee ss mm bb me cd AA QQ XX hnm hA hP hD fin ls hl
  obtain ⟨zx, zb, hml, hown, hts, hK⟩ := id XX
  have hS : va_S AA ss.heap ss.heap [] := va_S.rf
  have hl : lv_has ls 1 [(0, .ref (m 0))] := hl
  refine lv_aload_n zx zb dX12_wet_0 rfl (lv_at hl 0 rfl) ?_
  refine lv_iconst (v := nI 0) zx zb dX12_wet_1 (by decide) ?_
  refine call_Vi (As := [.int (nI 0)]) (rest := []) XX cv_X12_226 (c_X12_wetNow Γ l m M b C tr Y pc P 0 0 (hr) (hI) (fun x _ t _ _ => by rw [hasB_0, hasB_0])) hP hD hS hA [0, 1] (by decide) rfl (fun _ => rfl) 0 0 rfl rfl rfl rfl hl.1 rfl ⟨⟨by decide, by decide⟩, by decide, by decide⟩ (Nat.le_of_ble_eq_true rfl) dX12_wet_2 (fun r_2 u H locs hw hP hD hS => ?_)
  have hw := hw.symm
  subst hw
  have hP : bP Γ [bMo Γ m M, bA Γ (m 1) 259 b] H := hP
  have hD : bD AA [bMo Γ m M, bA Γ (m 1) 259 b] := hD
  exact fin _ _ (ttWet C tr Y 0) () 5 _ dX12_wet_5 (fun h => by cases h) (rfl) hP hD hS

set_option maxHeartbeats 4000000 in
set_option maxRecDepth 100000 in
theorem c_X12_worthOf (Γ : GG) (l : Launch) (m : Nat → Nat) (M : MoV) (b : Nat → Int32) (C : CoV) (tr : Nat → TrV) (Y : YrV) (pc : Nat) (P : Nat → YrV) (q : Int32) (hr : Rel b C tr Y pc P) (hI : Inv C tr Y) : Ci Γ l yX12_worthOf cX12_worthOf 4 (some (.int)) 2 42 0 0 [.ref (m 0), .int q] [bMo Γ m M, bA Γ (m 1) 259 b] (fun (r : Int32) (u : Unit) => r = stWorth C Y q) (fun (u : Unit) => [bMo Γ m M, bA Γ (m 1) 259 b]) := by
  refine Ci.of (Or.inl rfl) (by decide) (Nat.le_of_ble_eq_true rfl) ?_
  intro pp ee ss mm bb me cd AA QQ XX hnm hA hP hD fin ls hl
  obtain ⟨zx, zb, hml, hown, hts, hK⟩ := id XX
  have hS : va_S AA ss.heap ss.heap [] := va_S.rf
  have hl : lv_has ls 4 [(0, .ref (m 0)), (1, .int q)] := hl
  have htc := inv_tc hI
  have hdc := inv_dc hI
  have hn := inv_n hI
  refine lv_iconst (v := nI 0) zx zb dX12_worthOf_0 (by decide) ?_
  refine lv_istore_n (lv' := [(2, .int (nI 0)), (0, .ref (m 0)), (1, .int q)]) zx zb dX12_worthOf_1 rfl hl (by decide) rfl (fun ls hl => ?_)
  refine lv_iconst (v := nI 0) zx zb dX12_worthOf_2 (by decide) ?_
  refine lv_istore_n (lv' := [(3, .int (nI 0)), (2, .int (nI 0)), (0, .ref (m 0)), (1, .int q)]) zx zb dX12_worthOf_3 rfl hl (by decide) rfl (fun ls hl => ?_)
  have L4 : ∀ (nn : Nat) (x1 : Nat) (a : Int32), (x1 ≤ C.1) → (a = coWorth C (wSet Y q) x1) → C.1 - x1 < nn → ∀ (H : Heap) (locs : List Loc), bP Γ [bMo Γ m M, bA Γ (m 1) 259 b] H → bD AA [bMo Γ m M, bA Γ (m 1) 259 b] → va_S AA ss.heap H locs → ∀ (ls : Array Slot), lv_has ls 4 [(0, .ref (m 0)), (1, .int q), (2, .int a), (3, .int (nI x1))] → W pp l ee { frames := 2, cells := 0, slots := 0, locals := 42 } ss mm [.ref (m 0), .int q].toArray bb me cd H locs 0 0 QQ (F0 mm 4 ls []) := by
    intro nn
    induction nn with
    | zero => intro x1 a hx ha hm; exact absurd hm (Nat.not_lt_zero _)
    | succ nn ih4 =>
      intro x1 a hx ha hm4 H locs hP hD hS ls hl
      refine lv_iload_n zx zb dX12_worthOf_4 rfl (lv_at hl 3 rfl) ?_
      refine lv_aload_n zx zb dX12_worthOf_5 rfl (lv_at hl 0 rfl) ?_
      refine g_get (v := .ref (m 1)) XX hP 0 0 rfl rfl rfl iwX12 0 (by decide) fl_X12_7 rfl dX12_worthOf_6 ?_
      refine lv_iconst (v := nI 0) zx zb dX12_worthOf_9 (by decide) ?_
      refine g_ialdN (i := 0) XX hP 1 0 rfl rfl (by omega) (by decide) dX12_worthOf_10 ?_
      refine g_top (y := nI (C.1)) (Rel.n hr) ?_
      refine lv_icmp_ge (tgt := 54) zx zb dX12_worthOf_11 (by decide) (fun c_11 => ?_) (fun c_11 => ?_)
      · have c_11 : C.1 ≤ x1 := (nI_leI (a := C.1) (b := x1) (by omega) (by omega)).mp c_11
        refine lv_iload_n zx zb dX12_worthOf_54 rfl (lv_at hl 2 rfl) ?_
        exact fin _ _ a () 55 _ dX12_worthOf_55 (fun h => by cases h) (by have e : x1 = C.1 := (by omega); subst e; exact ha) hP hD hS
      · have c_11 : ¬ (C.1 ≤ x1) := fun h => c_11 ((nI_leI (a := C.1) (b := x1) (by omega) (by omega)).mpr h)
        refine lv_iload_n zx zb dX12_worthOf_14 rfl (lv_at hl 2 rfl) ?_
        refine lv_iload_n zx zb dX12_worthOf_15 rfl (lv_at hl 1 rfl) ?_
        refine lv_iload_n zx zb dX12_worthOf_16 rfl (lv_at hl 3 rfl) ?_
        refine lv_ishr zx zb dX12_worthOf_17 ?_
        refine g_top (y := q >>> (nI x1)) (sh31r _ (by omega)) ?_
        refine lv_iconst (v := nI 1) zx zb dX12_worthOf_18 (by decide) ?_
        refine lv_iand zx zb dX12_worthOf_19 ?_
        refine g_top (y := (q >>> (nI x1)) &&& 1) rfl ?_
        refine lv_iconst (v := nI 1) zx zb dX12_worthOf_20 (by decide) ?_
        refine lv_icmp_ne (tgt := 45) zx zb dX12_worthOf_21 (by decide) (fun c_21 => ?_) (fun c_21 => ?_)
        · have c_21 : hasB q x1 = false := shrBf (by omega) c_21
          refine lv_iconst (v := nI 0) zx zb dX12_worthOf_45 (by decide) ?_
          refine lv_iadd zx zb dX12_worthOf_46 ?_
          refine g_top (y := a + 0) rfl ?_
          refine lv_istore_n (lv' := [(2, .int (a + 0)), (0, .ref (m 0)), (1, .int q), (3, .int (nI x1))]) zx zb dX12_worthOf_47 rfl hl (by decide) rfl (fun ls hl => ?_)
          refine lv_iinc (v := nI (x1 + 1)) (lv' := [(3, .int (nI (x1 + 1))), (2, .int (a + 0)), (0, .ref (m 0)), (1, .int q)]) zx zb dX12_worthOf_48 hl (k := 3) rfl (nI_inc _ 1) (by decide) rfl (fun ls hl => ?_)
          refine lv_goto (tgt := 4) zx zb dX12_worthOf_51 (by decide) ?_
          exact ih4 (x1 + 1) (a + 0) (by omega) (by first | exact wo_1 (by omega) ha (and_f1 c_21) | exact wo_1 (by omega) ha (and_f2 c_29) | exact wo_2 (by omega) ha c_21 c_29) (by omega) _ _ hP hD hS _ (lv_sub hl [2, 3, 1, 0] rfl)
        · have c_21 : hasB q x1 = true := (shrB (by omega)).mp c_21
          refine lv_aload_n zx zb dX12_worthOf_24 rfl (lv_at hl 0 rfl) ?_
          refine lv_iload_n zx zb dX12_worthOf_25 rfl (lv_at hl 3 rfl) ?_
          refine call_Vi (As := [.int (nI x1)]) (rest := [.int a]) XX cv_X12_206 (c_X12_isLost Γ l m M b C tr Y pc P x1 (hr) (by omega)) hP hD hS hA [0, 1] (by decide) rfl (fun _ => rfl) 0 0 rfl rfl rfl rfl hl.1 rfl ⟨⟨by decide, by decide⟩, by decide, by decide⟩ (Nat.le_of_ble_eq_true rfl) dX12_worthOf_26 (fun r_26 u H locs hw hP hD hS => ?_)
          have hw := hw.symm
          subst hw
          have hP : bP Γ [bMo Γ m M, bA Γ (m 1) 259 b] H := hP
          have hD : bD AA [bMo Γ m M, bA Γ (m 1) 259 b] := hD
          refine lv_if_ne (tgt := 45) zx zb dX12_worthOf_29 (by decide) (fun c_29 => ?_) (fun c_29 => ?_)
          · have c_29 : (yrLost Y x1) = true := bI_ne c_29
            refine lv_iconst (v := nI 0) zx zb dX12_worthOf_45 (by decide) ?_
            refine lv_iadd zx zb dX12_worthOf_46 ?_
            refine g_top (y := a + 0) rfl ?_
            refine lv_istore_n (lv' := [(2, .int (a + 0)), (0, .ref (m 0)), (1, .int q), (3, .int (nI x1))]) zx zb dX12_worthOf_47 rfl hl (by decide) rfl (fun ls hl => ?_)
            refine lv_iinc (v := nI (x1 + 1)) (lv' := [(3, .int (nI (x1 + 1))), (2, .int (a + 0)), (0, .ref (m 0)), (1, .int q)]) zx zb dX12_worthOf_48 hl (k := 3) rfl (nI_inc _ 1) (by decide) rfl (fun ls hl => ?_)
            refine lv_goto (tgt := 4) zx zb dX12_worthOf_51 (by decide) ?_
            exact ih4 (x1 + 1) (a + 0) (by omega) (by first | exact wo_1 (by omega) ha (and_f1 c_21) | exact wo_1 (by omega) ha (and_f2 c_29) | exact wo_2 (by omega) ha c_21 c_29) (by omega) _ _ hP hD hS _ (lv_sub hl [2, 3, 1, 0] rfl)
          · have c_29 : (yrLost Y x1) = false := bI_0.mp c_29
            refine lv_aload_n zx zb dX12_worthOf_32 rfl (lv_at hl 0 rfl) ?_
            refine g_get (v := .ref (m 1)) XX hP 0 0 rfl rfl rfl iwX12 0 (by decide) fl_X12_7 rfl dX12_worthOf_33 ?_
            refine lv_iload_n zx zb dX12_worthOf_36 rfl (lv_at hl 3 rfl) ?_
            refine lv_iconst (v := nI 1) zx zb dX12_worthOf_37 (by decide) ?_
            refine callR_Si (As := [.int (nI x1), .int (nI 1)]) (rest := [.ref (m 1), .int a]) XX cs_X12_73 (c_X12_at Γ l x1 1 ) hP hD hS hA nil_mem nil_D rfl hl.1 rfl ⟨⟨by decide, by decide⟩, by decide, by decide⟩ (Nat.le_of_ble_eq_true rfl) dX12_worthOf_38 (fun r_38 H locs hw hP hS => ?_)
            have hw := hw.symm
            subst hw
            refine g_ialdN (i := 15 + 5 * x1 + 1) XX hP 1 0 rfl rfl (by omega) (by decide) dX12_worthOf_41 ?_
            refine g_top (y := C.2.2.2.1 x1) (Rel.c1 hr (by omega)) ?_
            refine lv_goto (tgt := 46) zx zb dX12_worthOf_42 (by decide) ?_
            refine lv_iadd zx zb dX12_worthOf_46 ?_
            refine lv_istore_n (lv' := [(2, .int (a + (C.2.2.2.1 x1))), (0, .ref (m 0)), (1, .int q), (3, .int (nI x1))]) zx zb dX12_worthOf_47 rfl hl (by decide) rfl (fun ls hl => ?_)
            refine lv_iinc (v := nI (x1 + 1)) (lv' := [(3, .int (nI (x1 + 1))), (2, .int (a + (C.2.2.2.1 x1))), (0, .ref (m 0)), (1, .int q)]) zx zb dX12_worthOf_48 hl (k := 3) rfl (nI_inc _ 1) (by decide) rfl (fun ls hl => ?_)
            refine lv_goto (tgt := 4) zx zb dX12_worthOf_51 (by decide) ?_
            exact ih4 (x1 + 1) (a + (C.2.2.2.1 x1)) (by omega) (by first | exact wo_1 (by omega) ha (and_f1 c_21) | exact wo_1 (by omega) ha (and_f2 c_29) | exact wo_2 (by omega) ha c_21 c_29) (by omega) _ _ hP hD hS _ (lv_sub hl [2, 3, 1, 0] rfl)
  exact L4 _ 0 0 (by omega) (rfl) (Nat.lt_succ_self _) _ _ hP hD hS _ (lv_sub hl [2, 3, 1, 0] rfl)

set_option maxHeartbeats 4000000 in
set_option maxRecDepth 100000 in
theorem c_X12_isSomeLost (Γ : GG) (l : Launch) (m : Nat → Nat) (M : MoV) (b : Nat → Int32) (C : CoV) (tr : Nat → TrV) (Y : YrV) (pc : Nat) (P : Nat → YrV) (hr : Rel b C tr Y pc P) (hI : Inv C tr Y) : Ci Γ l yX12_isSomeLost cX12_isSomeLost 3 (some (.boolean)) 2 42 0 0 [.ref (m 0)] [bMo Γ m M, bA Γ (m 1) 259 b] (fun (r : Int32) (u : Unit) => r = bI (lostN Y C.1)) (fun (u : Unit) => [bMo Γ m M, bA Γ (m 1) 259 b]) := by
  refine Ci.of (Or.inr rfl) (by decide) (Nat.le_of_ble_eq_true rfl) ?_
  intro pp ee ss mm bb me cd AA QQ XX hnm hA hP hD fin ls hl
  obtain ⟨zx, zb, hml, hown, hts, hK⟩ := id XX
  have hS : va_S AA ss.heap ss.heap [] := va_S.rf
  have hl : lv_has ls 3 [(0, .ref (m 0))] := hl
  have htc := inv_tc hI
  have hdc := inv_dc hI
  have hn := inv_n hI
  refine lv_iconst (v := nI 0) zx zb dX12_isSomeLost_0 (by decide) ?_
  refine lv_istore_n (lv' := [(1, .int (nI 0)), (0, .ref (m 0))]) zx zb dX12_isSomeLost_1 rfl hl (by decide) rfl (fun ls hl => ?_)
  refine lv_iconst (v := nI 0) zx zb dX12_isSomeLost_2 (by decide) ?_
  refine lv_istore_n (lv' := [(2, .int (nI 0)), (1, .int (nI 0)), (0, .ref (m 0))]) zx zb dX12_isSomeLost_3 rfl hl (by decide) rfl (fun ls hl => ?_)
  have L4 : ∀ (nn : Nat) (x1 : Nat) (a : Bool), (x1 ≤ C.1) → (a = lostN Y x1) → C.1 - x1 < nn → ∀ (H : Heap) (locs : List Loc), bP Γ [bMo Γ m M, bA Γ (m 1) 259 b] H → bD AA [bMo Γ m M, bA Γ (m 1) 259 b] → va_S AA ss.heap H locs → ∀ (ls : Array Slot), lv_has ls 3 [(0, .ref (m 0)), (1, .int (bI a)), (2, .int (nI x1))] → W pp l ee { frames := 2, cells := 0, slots := 0, locals := 42 } ss mm [.ref (m 0)].toArray bb me cd H locs 0 0 QQ (F0 mm 4 ls []) := by
    intro nn
    induction nn with
    | zero => intro x1 a hx ha hm; exact absurd hm (Nat.not_lt_zero _)
    | succ nn ih4 =>
      intro x1 a hx ha hm4 H locs hP hD hS ls hl
      refine lv_iload_n zx zb dX12_isSomeLost_4 rfl (lv_at hl 2 rfl) ?_
      refine lv_aload_n zx zb dX12_isSomeLost_5 rfl (lv_at hl 0 rfl) ?_
      refine g_get (v := .ref (m 1)) XX hP 0 0 rfl rfl rfl iwX12 0 (by decide) fl_X12_7 rfl dX12_isSomeLost_6 ?_
      refine lv_iconst (v := nI 0) zx zb dX12_isSomeLost_9 (by decide) ?_
      refine g_ialdN (i := 0) XX hP 1 0 rfl rfl (by omega) (by decide) dX12_isSomeLost_10 ?_
      refine g_top (y := nI (C.1)) (Rel.n hr) ?_
      refine lv_icmp_ge (tgt := 38) zx zb dX12_isSomeLost_11 (by decide) (fun c_11 => ?_) (fun c_11 => ?_)
      · have c_11 : C.1 ≤ x1 := (nI_leI (a := C.1) (b := x1) (by omega) (by omega)).mp c_11
        refine lv_iload_n zx zb dX12_isSomeLost_38 rfl (lv_at hl 1 rfl) ?_
        exact fin _ _ (bI a) () 39 _ dX12_isSomeLost_39 (fun _ => bI_narrow _) (by have e : x1 = C.1 := (by omega); subst e; rw [ha]) hP hD hS
      · have c_11 : ¬ (C.1 ≤ x1) := fun h => c_11 ((nI_leI (a := C.1) (b := x1) (by omega) (by omega)).mpr h)
        refine lv_iload_n zx zb dX12_isSomeLost_14 rfl (lv_at hl 1 rfl) ?_
        refine lv_if_ne (tgt := 26) zx zb dX12_isSomeLost_15 (by decide) (fun c_15 => ?_) (fun c_15 => ?_)
        · have c_15 : a = true := bI_ne c_15
          refine lv_iconst (v := nI 1) zx zb dX12_isSomeLost_26 (by decide) ?_
          refine lv_goto (tgt := 31) zx zb dX12_isSomeLost_27 (by decide) ?_
          refine lv_istore_n (lv' := [(1, .int (nI 1)), (0, .ref (m 0)), (2, .int (nI x1))]) zx zb dX12_isSomeLost_31 rfl hl (by decide) rfl (fun ls hl => ?_)
          refine lv_iinc (v := nI (x1 + 1)) (lv' := [(2, .int (nI (x1 + 1))), (1, .int (nI 1)), (0, .ref (m 0))]) zx zb dX12_isSomeLost_32 hl (k := 2) rfl (nI_inc _ 1) (by decide) rfl (fun ls hl => ?_)
          refine lv_goto (tgt := 4) zx zb dX12_isSomeLost_35 (by decide) ?_
          exact ih4 (x1 + 1) true (by omega) (by rw [lostN, ← ha]; first | (rw [c_15]; rfl) | (rw [c_15, c_23]; rfl)) (by omega) _ _ hP hD hS _ (lv_sub hl [2, 1, 0] rfl)
        · have c_15 : a = false := bI_0.mp c_15
          refine lv_aload_n zx zb dX12_isSomeLost_18 rfl (lv_at hl 0 rfl) ?_
          refine lv_iload_n zx zb dX12_isSomeLost_19 rfl (lv_at hl 2 rfl) ?_
          refine call_Vi (As := [.int (nI x1)]) (rest := []) XX cv_X12_206 (c_X12_isLost Γ l m M b C tr Y pc P x1 (hr) (by omega)) hP hD hS hA [0, 1] (by decide) rfl (fun _ => rfl) 0 0 rfl rfl rfl rfl hl.1 rfl ⟨⟨by decide, by decide⟩, by decide, by decide⟩ (Nat.le_of_ble_eq_true rfl) dX12_isSomeLost_20 (fun r_20 u H locs hw hP hD hS => ?_)
          have hw := hw.symm
          subst hw
          have hP : bP Γ [bMo Γ m M, bA Γ (m 1) 259 b] H := hP
          have hD : bD AA [bMo Γ m M, bA Γ (m 1) 259 b] := hD
          refine lv_if_eq (tgt := 30) zx zb dX12_isSomeLost_23 (by decide) (fun c_23 => ?_) (fun c_23 => ?_)
          · have c_23 : (yrLost Y x1) = false := bI_0.mp c_23
            refine lv_iconst (v := nI 0) zx zb dX12_isSomeLost_30 (by decide) ?_
            refine lv_istore_n (lv' := [(1, .int (nI 0)), (0, .ref (m 0)), (2, .int (nI x1))]) zx zb dX12_isSomeLost_31 rfl hl (by decide) rfl (fun ls hl => ?_)
            refine lv_iinc (v := nI (x1 + 1)) (lv' := [(2, .int (nI (x1 + 1))), (1, .int (nI 0)), (0, .ref (m 0))]) zx zb dX12_isSomeLost_32 hl (k := 2) rfl (nI_inc _ 1) (by decide) rfl (fun ls hl => ?_)
            refine lv_goto (tgt := 4) zx zb dX12_isSomeLost_35 (by decide) ?_
            exact ih4 (x1 + 1) false (by omega) (by rw [lostN, ← ha]; first | (rw [c_15]; rfl) | (rw [c_15, c_23]; rfl)) (by omega) _ _ hP hD hS _ (lv_sub hl [2, 1, 0] rfl)
          · have c_23 : (yrLost Y x1) = true := bI_ne c_23
            refine lv_iconst (v := nI 1) zx zb dX12_isSomeLost_26 (by decide) ?_
            refine lv_goto (tgt := 31) zx zb dX12_isSomeLost_27 (by decide) ?_
            refine lv_istore_n (lv' := [(1, .int (nI 1)), (0, .ref (m 0)), (2, .int (nI x1))]) zx zb dX12_isSomeLost_31 rfl hl (by decide) rfl (fun ls hl => ?_)
            refine lv_iinc (v := nI (x1 + 1)) (lv' := [(2, .int (nI (x1 + 1))), (1, .int (nI 1)), (0, .ref (m 0))]) zx zb dX12_isSomeLost_32 hl (k := 2) rfl (nI_inc _ 1) (by decide) rfl (fun ls hl => ?_)
            refine lv_goto (tgt := 4) zx zb dX12_isSomeLost_35 (by decide) ?_
            exact ih4 (x1 + 1) true (by omega) (by rw [lostN, ← ha]; first | (rw [c_15]; rfl) | (rw [c_15, c_23]; rfl)) (by omega) _ _ hP hD hS _ (lv_sub hl [2, 1, 0] rfl)
  exact L4 _ 0 false (by omega) (rfl) (Nat.lt_succ_self _) _ _ hP hD hS _ (lv_sub hl [2, 1, 0] rfl)

set_option maxHeartbeats 4000000 in
set_option maxRecDepth 100000 in
theorem c_X12_storm (Γ : GG) (l : Launch) (m : Nat → Nat) (M : MoV) (b : Nat → Int32) (C : CoV) (tr : Nat → TrV) (Y : YrV) (pc : Nat) (P : Nat → YrV) (f : Nat → Int32) (z : Int32) (hr : Rel b C tr Y pc P) (hI : Inv C tr Y) : Ci Γ l yX12_storm cX12_storm 2 (some (.int)) 2 42 0 0 [.ref (m 0), .int z] [bMo Γ m M, bA Γ (m 1) 259 b, bA Γ (m 6) 3 f] (fun (r : Int32) (u : Nat → Int32) => r = stR C z ∧ u = moV M f (wi z 0 999)) (fun (u : Nat → Int32) => [bMo Γ m M, bA Γ (m 1) 259 b, bA Γ (m 6) 3 u]) := by
  refine Ci.of (Or.inl rfl) (by decide) (Nat.le_of_ble_eq_true rfl) ?_
  intro pp ee ss mm bb me cd AA QQ XX hnm hA hP hD fin ls hl
  obtain ⟨zx, zb, hml, hown, hts, hK⟩ := id XX
  have hS : va_S AA ss.heap ss.heap [] := va_S.rf
  have hl : lv_has ls 2 [(0, .ref (m 0)), (1, .int z)] := hl
  refine lv_iload_n zx zb dX12_storm_0 rfl (lv_at hl 1 rfl) ?_
  refine lv_i2l (v := z.toInt64) zx zb dX12_storm_1 rfl ?_
  refine lv_lconst (v := (0 : Int32).toInt64) zx zb dX12_storm_2 (by decide) ?_
  refine lv_ldc2 zx zb hown (hts _ kl_X12_83) dX12_storm_3 ?_
  refine g_topl (y := (999 : Int32).toInt64) (by decide) ?_
  refine callR_Si (As := [.long z.toInt64, .long ((0 : Int32).toInt64), .long ((999 : Int32).toInt64)]) (rest := []) XX cs_X12_53 (c_X12_in Γ l z 0 999 ) hP hD hS hA nil_mem nil_D rfl hl.1 rfl ⟨⟨by decide, by decide⟩, by decide, by decide⟩ (Nat.le_of_ble_eq_true rfl) dX12_storm_6 (fun r_6 H locs hw hP hS => ?_)
  have hw := hw.symm
  subst hw
  refine lv_if_eq (tgt := 20) zx zb dX12_storm_9 (by decide) (fun c_9 => ?_) (fun c_9 => ?_)
  · have c_9 : (wi z 0 999) = false := bI_0.mp c_9
    refine lv_aload_n zx zb dX12_storm_20 rfl (lv_at hl 0 rfl) ?_
    refine call_Vi (As := []) (rest := []) XX cv_X12_59 (c_X12_bad Γ l m M f ) hP hD hS hA [0, 2] (by decide) rfl (fun _ => rfl) 0 0 rfl rfl rfl rfl hl.1 rfl ⟨⟨by decide, by decide⟩, by decide, by decide⟩ (Nat.le_of_ble_eq_true rfl) dX12_storm_21 (fun r_21 u H locs hw hP hD hS => ?_)
    obtain ⟨hw1, hw2⟩ := hw
    have hw1 := hw1.symm
    have hw2 := hw2.symm
    subst hw1
    subst hw2
    have hP : bP Γ [bMo Γ m M, bA Γ (m 1) 259 b, bA Γ (m 6) 3 (moRef M f 0)] H := hP
    have hD : bD AA [bMo Γ m M, bA Γ (m 1) 259 b, bA Γ (m 6) 3 (moRef M f 0)] := hD
    exact fin _ _ (-2) (moRef M f 0) 24 _ dX12_storm_24 (fun h => by cases h) ⟨(by simp [stR, c_9]), (by simp only [moV, c_9]; rfl)⟩ hP hD hS
  · have c_9 : (wi z 0 999) = true := bI_ne c_9
    refine lv_aload_n zx zb dX12_storm_12 rfl (lv_at hl 0 rfl) ?_
    refine lv_iload_n zx zb dX12_storm_13 rfl (lv_at hl 1 rfl) ?_
    refine call_Vi (As := [.int z]) (rest := []) XX cv_X12_215 (c_X12_stormOf Γ l m M b C tr Y pc P z (hr) (hI) (by obtain ⟨j, hj, e⟩ := wi_nat 0 999 c_9 rfl rfl (by decide); exact ⟨j, by omega, e⟩)) hP hD hS hA [0, 1] (by decide) rfl (fun _ => rfl) 0 0 rfl rfl rfl rfl hl.1 rfl ⟨⟨by decide, by decide⟩, by decide, by decide⟩ (Nat.le_of_ble_eq_true rfl) dX12_storm_14 (fun r_14 u H locs hw hP hD hS => ?_)
    have hw := hw.symm
    subst hw
    have hP : bP Γ [bMo Γ m M, bA Γ (m 1) 259 b, bA Γ (m 6) 3 f] H := hP
    have hD : bD AA [bMo Γ m M, bA Γ (m 1) 259 b, bA Γ (m 6) 3 f] := hD
    refine lv_goto (tgt := 24) zx zb dX12_storm_17 (by decide) ?_
    exact fin _ _ (coStorm C z) f 24 _ dX12_storm_24 (fun h => by cases h) ⟨(by simp [stR, c_9]), (by simp only [moV, c_9]; rfl)⟩ hP hD hS

set_option maxHeartbeats 4000000 in
set_option maxRecDepth 100000 in
theorem c_X12_status (Γ : GG) (l : Launch) (m : Nat → Nat) (M : MoV) (f : Nat → Int32) (a : Int32)  : Ci Γ l yX12_status cX12_status 2 (some (.int)) 1 25 0 0 [.ref (m 0), .int a] [bMo Γ m M, bA Γ (m 6) 3 f] (fun (r : Int32) (u : Nat → Int32) => r = (if wi a 0 2 = true then f a.toNatClampNeg else -1) ∧ u = moV M f (wi a 0 2)) (fun (u : Nat → Int32) => [bMo Γ m M, bA Γ (m 6) 3 u]) := by
  refine Ci.of (Or.inl rfl) (by decide) (Nat.le_of_ble_eq_true rfl) ?_
  intro pp ee ss mm bb me cd AA QQ XX hnm hA hP hD fin ls hl
  obtain ⟨zx, zb, hml, hown, hts, hK⟩ := id XX
  have hS : va_S AA ss.heap ss.heap [] := va_S.rf
  have hl : lv_has ls 2 [(0, .ref (m 0)), (1, .int a)] := hl
  refine lv_iload_n zx zb dX12_status_0 rfl (lv_at hl 1 rfl) ?_
  refine lv_i2l (v := a.toInt64) zx zb dX12_status_1 rfl ?_
  refine lv_lconst (v := (0 : Int32).toInt64) zx zb dX12_status_2 (by decide) ?_
  refine lv_ldc2 zx zb hown (hts _ kl_X12_71) dX12_status_3 ?_
  refine g_topl (y := (2 : Int32).toInt64) (by decide) ?_
  refine callR_Si (As := [.long a.toInt64, .long ((0 : Int32).toInt64), .long ((2 : Int32).toInt64)]) (rest := []) XX cs_X12_53 (c_X12_in Γ l a 0 2 ) hP hD hS hA nil_mem nil_D rfl hl.1 rfl ⟨⟨by decide, by decide⟩, by decide, by decide⟩ (Nat.le_of_ble_eq_true rfl) dX12_status_6 (fun r_6 H locs hw hP hS => ?_)
  have hw := hw.symm
  subst hw
  refine lv_if_eq (tgt := 21) zx zb dX12_status_9 (by decide) (fun c_9 => ?_) (fun c_9 => ?_)
  · have c_9 : (wi a 0 2) = false := bI_0.mp c_9
    refine lv_aload_n zx zb dX12_status_21 rfl (lv_at hl 0 rfl) ?_
    refine lv_iconst (v := nI 0) zx zb dX12_status_22 (by decide) ?_
    refine lv_iconst (v := (-1)) zx zb dX12_status_23 (by decide) ?_
    refine call_Vi (As := [.int (nI 0), .int (-1)]) (rest := []) XX cv_X12_49 (c_X12_refuses Γ l m M f 0 (-1) (by decide)) hP hD hS hA [0, 1] (by decide) rfl (fun _ => rfl) 0 0 rfl rfl rfl rfl hl.1 rfl ⟨⟨by decide, by decide⟩, by decide, by decide⟩ (Nat.le_of_ble_eq_true rfl) dX12_status_24 (fun r_24 u H locs hw hP hD hS => ?_)
    obtain ⟨hw1, hw2⟩ := hw
    have hw1 := hw1.symm
    have hw2 := hw2.symm
    subst hw1
    subst hw2
    have hP : bP Γ [bMo Γ m M, bA Γ (m 6) 3 (moRef M f 0)] H := hP
    have hD : bD AA [bMo Γ m M, bA Γ (m 6) 3 (moRef M f 0)] := hD
    exact fin _ _ (-1) (moRef M f 0) 27 _ dX12_status_27 (fun h => by cases h) (by first | exact ⟨by rw [c_9, nI_clamp (by omega)]; rfl, by rw [c_9]; rfl⟩ | exact ⟨by rw [c_9]; rfl, by rw [c_9]; rfl⟩) hP hD hS
  · have c_9 : (wi a 0 2) = true := bI_ne c_9
    obtain ⟨j, hj, rfl⟩ := wi_nat 0 2 c_9 rfl rfl (by decide)
    refine lv_aload_n zx zb dX12_status_12 rfl (lv_at hl 0 rfl) ?_
    refine g_get (v := .ref (m 6)) XX hP 0 0 rfl rfl rfl iwX12 5 (by decide) fl_X12_26 rfl dX12_status_13 ?_
    refine lv_iload_n zx zb dX12_status_16 rfl (lv_at hl 1 rfl) ?_
    refine g_ialdN (i := j) XX hP 1 0 rfl rfl (by omega) (by decide) dX12_status_17 ?_
    refine lv_goto (tgt := 27) zx zb dX12_status_18 (by decide) ?_
    exact fin _ _ (f j) f 27 _ dX12_status_27 (fun h => by cases h) (by first | exact ⟨by rw [c_9, nI_clamp (by omega)]; rfl, by rw [c_9]; rfl⟩ | exact ⟨by rw [c_9]; rfl, by rw [c_9]; rfl⟩) hP hD hS

set_option maxHeartbeats 4000000 in
set_option maxRecDepth 100000 in
theorem c_X12_countOf (Γ : GG) (l : Launch) (m : Nat → Nat) (M : MoV) (b : Nat → Int32) (C : CoV) (tr : Nat → TrV) (Y : YrV) (pc : Nat) (P : Nat → YrV) (j : Nat) (hr : Rel b C tr Y pc P) (hj : j < 8) : Ci Γ l yX12_countOf cX12_countOf 2 (some (.int)) 0 0 0 0 [.ref (m 0), .int (nI j)] [bMo Γ m M, bA Γ (m 1) 259 b] (fun (r : Int32) (u : Unit) => r = amV C Y pc M.2.1 (nI j)) (fun (u : Unit) => [bMo Γ m M, bA Γ (m 1) 259 b]) := by
  refine Ci.of (Or.inl rfl) (by decide) (Nat.le_of_ble_eq_true rfl) ?_
  intro pp ee ss mm bb me cd AA QQ XX hnm hA hP hD fin ls hl
  obtain ⟨zx, zb, hml, hown, hts, hK⟩ := id XX
  have hS : va_S AA ss.heap ss.heap [] := va_S.rf
  have hl : lv_has ls 2 [(0, .ref (m 0)), (1, .int (nI j))] := hl
  refine lv_iload_n zx zb dX12_countOf_0 rfl (lv_at hl 1 rfl) ?_
  refine lv_bipush (v := nI 7) zx zb dX12_countOf_1 (by decide) ?_
  refine lv_icmp_ge (tgt := 15) zx zb dX12_countOf_3 (by decide) (fun c_3 => ?_) (fun c_3 => ?_)
  · have c_3 : 7 ≤ j := (nI_leI (a := 7) (b := j) (by omega) (by omega)).mp c_3
    refine lv_aload_n zx zb dX12_countOf_15 rfl (lv_at hl 0 rfl) ?_
    refine g_get (v := .int (nI (M.2.1))) XX hP 0 0 rfl rfl rfl iwX12 8 (by decide) fl_X12_107 rfl dX12_countOf_16 ?_
    exact fin _ _ (nI (M.2.1)) () 19 _ dX12_countOf_19 (fun h => by cases h) (by first | rfl | (have e : j = 7 := (by omega); subst e; simp [amV]; rfl)) hP hD hS
  · have c_3 : ¬ (7 ≤ j) := fun h => c_3 ((nI_leI (a := 7) (b := j) (by omega) (by omega)).mpr h)
    refine lv_aload_n zx zb dX12_countOf_6 rfl (lv_at hl 0 rfl) ?_
    refine g_get (v := .ref (m 1)) XX hP 0 0 rfl rfl rfl iwX12 0 (by decide) fl_X12_7 rfl dX12_countOf_7 ?_
    refine lv_iload_n zx zb dX12_countOf_10 rfl (lv_at hl 1 rfl) ?_
    have e0 : b j = amV C Y pc M.2.1 (nI j) := am_eq hr (by omega)
    refine g_ialdN (i := j) XX hP 1 0 rfl rfl (by omega) (by decide) dX12_countOf_11 ?_
    refine g_top (y := amV C Y pc M.2.1 (nI j)) (e0) ?_
    refine lv_goto (tgt := 19) zx zb dX12_countOf_12 (by decide) ?_
    exact fin _ _ (amV C Y pc M.2.1 (nI j)) () 19 _ dX12_countOf_19 (fun h => by cases h) (by first | rfl | (have e : j = 7 := (by omega); subst e; simp [amV]; rfl)) hP hD hS

set_option maxHeartbeats 4000000 in
set_option maxRecDepth 100000 in
theorem c_X12_count (Γ : GG) (l : Launch) (m : Nat → Nat) (M : MoV) (b : Nat → Int32) (C : CoV) (tr : Nat → TrV) (Y : YrV) (pc : Nat) (P : Nat → YrV) (f : Nat → Int32) (a : Int32) (hr : Rel b C tr Y pc P) : Ci Γ l yX12_count cX12_count 2 (some (.int)) 2 42 0 0 [.ref (m 0), .int a] [bMo Γ m M, bA Γ (m 1) 259 b, bA Γ (m 6) 3 f] (fun (r : Int32) (u : Nat → Int32) => r = cnR C Y pc M.2.1 a ∧ u = moV M f (wi a 0 7)) (fun (u : Nat → Int32) => [bMo Γ m M, bA Γ (m 1) 259 b, bA Γ (m 6) 3 u]) := by
  refine Ci.of (Or.inl rfl) (by decide) (Nat.le_of_ble_eq_true rfl) ?_
  intro pp ee ss mm bb me cd AA QQ XX hnm hA hP hD fin ls hl
  obtain ⟨zx, zb, hml, hown, hts, hK⟩ := id XX
  have hS : va_S AA ss.heap ss.heap [] := va_S.rf
  have hl : lv_has ls 2 [(0, .ref (m 0)), (1, .int a)] := hl
  refine lv_iload_n zx zb dX12_count_0 rfl (lv_at hl 1 rfl) ?_
  refine lv_i2l (v := a.toInt64) zx zb dX12_count_1 rfl ?_
  refine lv_lconst (v := (0 : Int32).toInt64) zx zb dX12_count_2 (by decide) ?_
  refine lv_ldc2 zx zb hown (hts _ kl_X12_79) dX12_count_3 ?_
  refine g_topl (y := (7 : Int32).toInt64) (by decide) ?_
  refine callR_Si (As := [.long a.toInt64, .long ((0 : Int32).toInt64), .long ((7 : Int32).toInt64)]) (rest := []) XX cs_X12_53 (c_X12_in Γ l a 0 7 ) hP hD hS hA nil_mem nil_D rfl hl.1 rfl ⟨⟨by decide, by decide⟩, by decide, by decide⟩ (Nat.le_of_ble_eq_true rfl) dX12_count_6 (fun r_6 H locs hw hP hS => ?_)
  have hw := hw.symm
  subst hw
  refine lv_if_eq (tgt := 20) zx zb dX12_count_9 (by decide) (fun c_9 => ?_) (fun c_9 => ?_)
  · have c_9 : (wi a 0 7) = false := bI_0.mp c_9
    refine lv_aload_n zx zb dX12_count_20 rfl (lv_at hl 0 rfl) ?_
    refine call_Vi (As := []) (rest := []) XX cv_X12_59 (c_X12_bad Γ l m M f ) hP hD hS hA [0, 2] (by decide) rfl (fun _ => rfl) 0 0 rfl rfl rfl rfl hl.1 rfl ⟨⟨by decide, by decide⟩, by decide, by decide⟩ (Nat.le_of_ble_eq_true rfl) dX12_count_21 (fun r_21 u H locs hw hP hD hS => ?_)
    obtain ⟨hw1, hw2⟩ := hw
    have hw1 := hw1.symm
    have hw2 := hw2.symm
    subst hw1
    subst hw2
    have hP : bP Γ [bMo Γ m M, bA Γ (m 1) 259 b, bA Γ (m 6) 3 (moRef M f 0)] H := hP
    have hD : bD AA [bMo Γ m M, bA Γ (m 1) 259 b, bA Γ (m 6) 3 (moRef M f 0)] := hD
    exact fin _ _ (-2) (moRef M f 0) 24 _ dX12_count_24 (fun h => by cases h) ⟨(by simp [cnR, c_9]), (by simp only [moV, c_9]; rfl)⟩ hP hD hS
  · have c_9 : (wi a 0 7) = true := bI_ne c_9
    obtain ⟨j, hj, rfl⟩ := wi_nat 0 7 c_9 rfl rfl (by decide)
    refine lv_aload_n zx zb dX12_count_12 rfl (lv_at hl 0 rfl) ?_
    refine lv_iload_n zx zb dX12_count_13 rfl (lv_at hl 1 rfl) ?_
    refine call_Vi (As := [.int (nI j)]) (rest := []) XX cv_X12_290 (c_X12_countOf Γ l m M b C tr Y pc P j (hr) (by omega)) hP hD hS hA [0, 1] (by decide) rfl (fun _ => rfl) 0 0 rfl rfl rfl rfl hl.1 rfl ⟨⟨by decide, by decide⟩, by decide, by decide⟩ (Nat.le_of_ble_eq_true rfl) dX12_count_14 (fun r_14 u H locs hw hP hD hS => ?_)
    have hw := hw.symm
    subst hw
    have hP : bP Γ [bMo Γ m M, bA Γ (m 1) 259 b, bA Γ (m 6) 3 f] H := hP
    have hD : bD AA [bMo Γ m M, bA Γ (m 1) 259 b, bA Γ (m 6) 3 f] := hD
    refine lv_goto (tgt := 24) zx zb dX12_count_17 (by decide) ?_
    exact fin _ _ (amV C Y pc M.2.1 (nI j)) f 24 _ dX12_count_24 (fun h => by cases h) ⟨(by simp [cnR, c_9]), (by simp only [moV, c_9]; rfl)⟩ hP hD hS

set_option maxHeartbeats 4000000 in
set_option maxRecDepth 100000 in
theorem c_X12_cellsOf (Γ : GG) (l : Launch) (m : Nat → Nat) (M : MoV) (b : Nat → Int32) (C : CoV) (tr : Nat → TrV) (Y : YrV) (pc : Nat) (P : Nat → YrV) (q : Int32) (hr : Rel b C tr Y pc P) (hI : Inv C tr Y) : Ci Γ l yX12_cellsOf cX12_cellsOf 4 (some (.int)) 1 21 0 0 [.ref (m 0), .int q] [bMo Γ m M, bA Γ (m 1) 259 b] (fun (r : Int32) (u : Unit) => r = coTown C q C.1) (fun (u : Unit) => [bMo Γ m M, bA Γ (m 1) 259 b]) := by
  refine Ci.of (Or.inl rfl) (by decide) (Nat.le_of_ble_eq_true rfl) ?_
  intro pp ee ss mm bb me cd AA QQ XX hnm hA hP hD fin ls hl
  obtain ⟨zx, zb, hml, hown, hts, hK⟩ := id XX
  have hS : va_S AA ss.heap ss.heap [] := va_S.rf
  have hl : lv_has ls 4 [(0, .ref (m 0)), (1, .int q)] := hl
  have htc := inv_tc hI
  have hdc := inv_dc hI
  have hn := inv_n hI
  refine lv_iconst (v := nI 0) zx zb dX12_cellsOf_0 (by decide) ?_
  refine lv_istore_n (lv' := [(2, .int (nI 0)), (0, .ref (m 0)), (1, .int q)]) zx zb dX12_cellsOf_1 rfl hl (by decide) rfl (fun ls hl => ?_)
  refine lv_iconst (v := nI 0) zx zb dX12_cellsOf_2 (by decide) ?_
  refine lv_istore_n (lv' := [(3, .int (nI 0)), (2, .int (nI 0)), (0, .ref (m 0)), (1, .int q)]) zx zb dX12_cellsOf_3 rfl hl (by decide) rfl (fun ls hl => ?_)
  have L4 : ∀ (nn : Nat) (x1 : Nat) (a : Int32), (x1 ≤ C.1) → (a = coTown C q x1) → C.1 - x1 < nn → ∀ (H : Heap) (locs : List Loc), bP Γ [bMo Γ m M, bA Γ (m 1) 259 b] H → bD AA [bMo Γ m M, bA Γ (m 1) 259 b] → va_S AA ss.heap H locs → ∀ (ls : Array Slot), lv_has ls 4 [(0, .ref (m 0)), (1, .int q), (2, .int a), (3, .int (nI x1))] → W pp l ee { frames := 1, cells := 0, slots := 0, locals := 21 } ss mm [.ref (m 0), .int q].toArray bb me cd H locs 0 0 QQ (F0 mm 4 ls []) := by
    intro nn
    induction nn with
    | zero => intro x1 a hx ha hm; exact absurd hm (Nat.not_lt_zero _)
    | succ nn ih4 =>
      intro x1 a hx ha hm4 H locs hP hD hS ls hl
      refine lv_iload_n zx zb dX12_cellsOf_4 rfl (lv_at hl 3 rfl) ?_
      refine lv_aload_n zx zb dX12_cellsOf_5 rfl (lv_at hl 0 rfl) ?_
      refine g_get (v := .ref (m 1)) XX hP 0 0 rfl rfl rfl iwX12 0 (by decide) fl_X12_7 rfl dX12_cellsOf_6 ?_
      refine lv_iconst (v := nI 0) zx zb dX12_cellsOf_9 (by decide) ?_
      refine g_ialdN (i := 0) XX hP 1 0 rfl rfl (by omega) (by decide) dX12_cellsOf_10 ?_
      refine g_top (y := nI (C.1)) (Rel.n hr) ?_
      refine lv_icmp_ge (tgt := 44) zx zb dX12_cellsOf_11 (by decide) (fun c_11 => ?_) (fun c_11 => ?_)
      · have c_11 : C.1 ≤ x1 := (nI_leI (a := C.1) (b := x1) (by omega) (by omega)).mp c_11
        refine lv_iload_n zx zb dX12_cellsOf_44 rfl (lv_at hl 2 rfl) ?_
        exact fin _ _ a () 45 _ dX12_cellsOf_45 (fun h => by cases h) (by have e : x1 = C.1 := (by omega); subst e; exact ha) hP hD hS
      · have c_11 : ¬ (C.1 ≤ x1) := fun h => c_11 ((nI_leI (a := C.1) (b := x1) (by omega) (by omega)).mpr h)
        refine lv_iload_n zx zb dX12_cellsOf_14 rfl (lv_at hl 2 rfl) ?_
        refine lv_aload_n zx zb dX12_cellsOf_15 rfl (lv_at hl 0 rfl) ?_
        refine g_get (v := .ref (m 1)) XX hP 0 0 rfl rfl rfl iwX12 0 (by decide) fl_X12_7 rfl dX12_cellsOf_16 ?_
        refine lv_iload_n zx zb dX12_cellsOf_19 rfl (lv_at hl 3 rfl) ?_
        refine lv_iconst (v := nI 2) zx zb dX12_cellsOf_20 (by decide) ?_
        refine callR_Si (As := [.int (nI x1), .int (nI 2)]) (rest := [.ref (m 1), .int a]) XX cs_X12_73 (c_X12_at Γ l x1 2 ) hP hD hS hA nil_mem nil_D rfl hl.1 rfl ⟨⟨by decide, by decide⟩, by decide, by decide⟩ (Nat.le_of_ble_eq_true rfl) dX12_cellsOf_21 (fun r_21 H locs hw hP hS => ?_)
        have hw := hw.symm
        subst hw
        refine g_ialdN (i := 15 + 5 * x1 + 2) XX hP 1 0 rfl rfl (by omega) (by decide) dX12_cellsOf_24 ?_
        refine g_top (y := C.2.2.2.2.1 x1) (Rel.c2 hr (by omega)) ?_
        refine lv_iload_n zx zb dX12_cellsOf_25 rfl (lv_at hl 1 rfl) ?_
        refine lv_icmp_ne (tgt := 35) zx zb dX12_cellsOf_26 (by decide) (fun c_26 => ?_) (fun c_26 => ?_)
        · have c_26 : ¬ ((C.2.2.2.2.1 x1) = q) := c_26
          refine lv_iconst (v := nI 0) zx zb dX12_cellsOf_35 (by decide) ?_
          refine lv_ior zx zb dX12_cellsOf_36 ?_
          refine g_top (y := a ||| 0) rfl ?_
          refine lv_istore_n (lv' := [(2, .int (a ||| 0)), (0, .ref (m 0)), (1, .int q), (3, .int (nI x1))]) zx zb dX12_cellsOf_37 rfl hl (by decide) rfl (fun ls hl => ?_)
          refine lv_iinc (v := nI (x1 + 1)) (lv' := [(3, .int (nI (x1 + 1))), (2, .int (a ||| 0)), (0, .ref (m 0)), (1, .int q)]) zx zb dX12_cellsOf_38 hl (k := 3) rfl (nI_inc _ 1) (by decide) rfl (fun ls hl => ?_)
          refine lv_goto (tgt := 4) zx zb dX12_cellsOf_41 (by decide) ?_
          exact ih4 (x1 + 1) (a ||| 0) (by omega) (by rw [coTown, ← ha]; first | (rw [if_pos c_26]; done) | (rw [if_neg c_26, or_zero]; done)) (by omega) _ _ hP hD hS _ (lv_sub hl [2, 3, 1, 0] rfl)
        · have c_26 : (C.2.2.2.2.1 x1) = q := c_26
          refine lv_iconst (v := nI 1) zx zb dX12_cellsOf_29 (by decide) ?_
          refine lv_iload_n zx zb dX12_cellsOf_30 rfl (lv_at hl 3 rfl) ?_
          refine lv_ishl zx zb dX12_cellsOf_31 ?_
          refine g_top (y := bit x1) (sh31l _ (by omega)) ?_
          refine lv_goto (tgt := 36) zx zb dX12_cellsOf_32 (by decide) ?_
          refine lv_ior zx zb dX12_cellsOf_36 ?_
          refine lv_istore_n (lv' := [(2, .int (a ||| (bit x1))), (0, .ref (m 0)), (1, .int q), (3, .int (nI x1))]) zx zb dX12_cellsOf_37 rfl hl (by decide) rfl (fun ls hl => ?_)
          refine lv_iinc (v := nI (x1 + 1)) (lv' := [(3, .int (nI (x1 + 1))), (2, .int (a ||| (bit x1))), (0, .ref (m 0)), (1, .int q)]) zx zb dX12_cellsOf_38 hl (k := 3) rfl (nI_inc _ 1) (by decide) rfl (fun ls hl => ?_)
          refine lv_goto (tgt := 4) zx zb dX12_cellsOf_41 (by decide) ?_
          exact ih4 (x1 + 1) (a ||| (bit x1)) (by omega) (by rw [coTown, ← ha]; first | (rw [if_pos c_26]; done) | (rw [if_neg c_26, or_zero]; done)) (by omega) _ _ hP hD hS _ (lv_sub hl [2, 3, 1, 0] rfl)
  exact L4 _ 0 0 (by omega) (rfl) (Nat.lt_succ_self _) _ _ hP hD hS _ (lv_sub hl [2, 3, 1, 0] rfl)
