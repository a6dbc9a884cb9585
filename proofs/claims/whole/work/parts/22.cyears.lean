theorem cv_X10_34 : CWV RX10 34 RX10 yX10_isLost cX10_isLost 2 (some (.boolean)) 1 := ⟨cd_X10_isLost, im_X10_isLost, se_X10_X10_isLost_X10_isLost, in_X10, ml_X10_34, by decide +kernel⟩
set_option maxHeartbeats 4000000 in
set_option maxRecDepth 100000 in
theorem c_X10_isBreached (Γ : GG) (l : Launch) (y : Nat → Nat) (Y : YrV) (i : Nat) (hi : i < 8) : Ci Γ l yX10_isBreached cX10_isBreached 2 (some (.boolean)) 0 0 0 0 [.ref (y 0), .int (nI i)] [bYr Γ y Y] (fun (r : Int32) (u : Unit) => r = bI (yrBr Y i)) (fun (u : Unit) => [bYr Γ y Y]) := by
  refine Ci.of (Or.inr rfl) (by decide) (Nat.le_of_ble_eq_true rfl) ?_
  intro pp ee ss mm bb me cd AA QQ XX hnm hA hP hD fin ls hl
  obtain ⟨zx, zb, hml, hown, hts, hK⟩ := id XX
  have hS : va_S AA ss.heap ss.heap [] := va_S.rf
  have hl : lv_has ls 2 [(0, .ref (y 0)), (1, .int (nI i))] := hl
  refine lv_aload_n zx zb dX10_isBreached_0 rfl (lv_at hl 0 rfl) ?_
  refine g_get (v := .int Y.2.2.1) XX hP 0 0 rfl rfl rfl iwX10 2 (by decide) fl_X10_25 rfl dX10_isBreached_1 ?_
  refine lv_iconst (v := nI 1) zx zb dX10_isBreached_4 (by decide) ?_
  refine lv_iload_n zx zb dX10_isBreached_5 rfl (lv_at hl 1 rfl) ?_
  refine lv_ishl zx zb dX10_isBreached_6 ?_
  refine g_top (y := bit i) (sh31l _ (by omega)) ?_
  refine lv_iand zx zb dX10_isBreached_7 ?_
  refine lv_if_eq (tgt := 15) zx zb dX10_isBreached_8 (by decide) (fun c_8 => ?_) (fun c_8 => ?_)
  · have c_8 : hasB Y.2.2.1 i = false := hasB_f.mp c_8
    refine lv_iconst (v := nI 0) zx zb dX10_isBreached_15 (by decide) ?_
    exact fin _ _ (nI 0) () 16 _ dX10_isBreached_16 (fun _ => nar0) (by first | exact retT (by simpa [yrBr] using c_8) | exact retF (by simpa [yrBr] using c_8)) hP hD hS
  · have c_8 : hasB Y.2.2.1 i = true := hasB_t.mp c_8
    refine lv_iconst (v := nI 1) zx zb dX10_isBreached_11 (by decide) ?_
    refine lv_goto (tgt := 16) zx zb dX10_isBreached_12 (by decide) ?_
    exact fin _ _ (nI 1) () 16 _ dX10_isBreached_16 (fun _ => nar1) (by first | exact retT (by simpa [yrBr] using c_8) | exact retF (by simpa [yrBr] using c_8)) hP hD hS

set_option maxHeartbeats 4000000 in
set_option maxRecDepth 100000 in
theorem c_X10_isLost (Γ : GG) (l : Launch) (y : Nat → Nat) (Y : YrV) (x : Nat) (hi : x < 8) : Ci Γ l yX10_isLost cX10_isLost 2 (some (.boolean)) 0 0 0 0 [.ref (y 0), .int (nI x)] [bYr Γ y Y] (fun (r : Int32) (u : Unit) => r = bI (yrLost Y x)) (fun (u : Unit) => [bYr Γ y Y]) := by
  refine Ci.of (Or.inr rfl) (by decide) (Nat.le_of_ble_eq_true rfl) ?_
  intro pp ee ss mm bb me cd AA QQ XX hnm hA hP hD fin ls hl
  obtain ⟨zx, zb, hml, hown, hts, hK⟩ := id XX
  have hS : va_S AA ss.heap ss.heap [] := va_S.rf
  have hl : lv_has ls 2 [(0, .ref (y 0)), (1, .int (nI x))] := hl
  refine lv_aload_n zx zb dX10_isLost_0 rfl (lv_at hl 0 rfl) ?_
  refine g_get (v := .ref (y 2)) XX hP 0 0 rfl rfl rfl iwX10 4 (by decide) fl_X10_15 rfl dX10_isLost_1 ?_
  refine lv_iload_n zx zb dX10_isLost_4 rfl (lv_at hl 1 rfl) ?_
  refine g_ialdN (i := x) XX hP 0 2 rfl rfl (by omega) (by decide) dX10_isLost_5 ?_
  refine lv_iconst (v := nI 3) zx zb dX10_isLost_6 (by decide) ?_
  refine lv_icmp_lt (tgt := 14) zx zb dX10_isLost_7 (by decide) (fun c_7 => ?_) (fun c_7 => ?_)
  · have c_7 : (Y.2.2.2.2 x) < (3 : Int32) := c_7
    refine lv_iconst (v := nI 0) zx zb dX10_isLost_14 (by decide) ?_
    exact fin _ _ (nI 0) () 15 _ dX10_isLost_15 (fun _ => nar0) (by first | exact retT (by simpa [yrLost] using c_7) | exact retF (by simpa [yrLost] using c_7)) hP hD hS
  · have c_7 : ¬ ((Y.2.2.2.2 x) < (3 : Int32)) := c_7
    refine lv_iconst (v := nI 1) zx zb dX10_isLost_10 (by decide) ?_
    refine lv_goto (tgt := 15) zx zb dX10_isLost_11 (by decide) ?_
    exact fin _ _ (nI 1) () 15 _ dX10_isLost_15 (fun _ => nar1) (by first | exact retT (by simpa [yrLost] using c_7) | exact retF (by simpa [yrLost] using c_7)) hP hD hS

set_option maxHeartbeats 4000000 in
set_option maxRecDepth 100000 in
theorem c_X10_lost (Γ : GG) (l : Launch) (y : Nat → Nat) (Y : YrV)  : Ci Γ l yX10_lost cX10_lost 3 (some (.int)) 1 21 0 0 [.ref (y 0)] [bYr Γ y Y] (fun (r : Int32) (u : Unit) => r = yrLostB Y 8) (fun (u : Unit) => [bYr Γ y Y]) := by
  refine Ci.of (Or.inl rfl) (by decide) (Nat.le_of_ble_eq_true rfl) ?_
  intro pp ee ss mm bb me cd AA QQ XX hnm hA hP hD fin ls hl
  obtain ⟨zx, zb, hml, hown, hts, hK⟩ := id XX
  have hS : va_S AA ss.heap ss.heap [] := va_S.rf
  have hl : lv_has ls 3 [(0, .ref (y 0))] := hl
  refine lv_iconst (v := nI 0) zx zb dX10_lost_0 (by decide) ?_
  refine lv_istore_n (lv' := [(1, .int (nI 0)), (0, .ref (y 0))]) zx zb dX10_lost_1 rfl hl (by decide) rfl (fun ls hl => ?_)
  refine lv_iconst (v := nI 0) zx zb dX10_lost_2 (by decide) ?_
  refine lv_istore_n (lv' := [(2, .int (nI 0)), (1, .int (nI 0)), (0, .ref (y 0))]) zx zb dX10_lost_3 rfl hl (by decide) rfl (fun ls hl => ?_)
  have L4 : ∀ (nn : Nat) (i : Nat) (a : Int32), (i ≤ 8) → (a = yrLostB Y i) → 8 - i < nn → ∀ (H : Heap) (locs : List Loc), bP Γ [bYr Γ y Y] H → bD AA [bYr Γ y Y] → va_S AA ss.heap H locs → ∀ (ls : Array Slot), lv_has ls 3 [(0, .ref (y 0)), (1, .int a), (2, .int (nI i))] → W pp l ee { frames := 1, cells := 0, slots := 0, locals := 21 } ss mm [.ref (y 0)].toArray bb me cd H locs 0 0 QQ (F0 mm 4 ls []) := by
    intro nn
    induction nn with
    | zero => intro i a hi ha hm; exact absurd hm (Nat.not_lt_zero _)
    | succ nn ih4 =>
      intro i a hi ha hm4 H locs hP hD hS ls hl
      refine lv_iload_n zx zb dX10_lost_4 rfl (lv_at hl 2 rfl) ?_
      refine lv_bipush (v := nI 8) zx zb dX10_lost_5 (by decide) ?_
      refine lv_icmp_ge (tgt := 30) zx zb dX10_lost_7 (by decide) (fun c_7 => ?_) (fun c_7 => ?_)
      · have c_7 : 8 ≤ i := (nI_leI (a := 8) (b := i) (by omega) (by omega)).mp c_7
        refine lv_iload_n zx zb dX10_lost_30 rfl (lv_at hl 1 rfl) ?_
        exact fin _ _ a () 31 _ dX10_lost_31 (fun h => by cases h) (by have e : i = 8 := (by omega); subst e; exact ha) hP hD hS
      · have c_7 : ¬ (8 ≤ i) := fun h => c_7 ((nI_leI (a := 8) (b := i) (by omega) (by omega)).mpr h)
        refine lv_aload_n zx zb dX10_lost_10 rfl (lv_at hl 0 rfl) ?_
        refine lv_iload_n zx zb dX10_lost_11 rfl (lv_at hl 2 rfl) ?_
        refine call_Vi (As := [.int (nI i)]) (rest := []) XX cv_X10_34 (c_X10_isLost Γ l y Y i (by omega)) hP hD hS hA [0] (by decide) rfl (fun _ => rfl) 0 0 rfl rfl rfl rfl hl.1 rfl ⟨⟨by decide, by decide⟩, by decide, by decide⟩ (Nat.le_of_ble_eq_true rfl) dX10_lost_12 (fun r_12 u H locs hw hP hD hS => ?_)
        have hw := hw.symm
        subst hw
        have hP : bP Γ [bYr Γ y Y] H := hP
        have hD : bD AA [bYr Γ y Y] := hD
        refine lv_if_eq (tgt := 24) zx zb dX10_lost_15 (by decide) (fun c_15 => ?_) (fun c_15 => ?_)
        · have c_15 : (yrLost Y i) = false := bI_0.mp c_15
          refine lv_iinc (v := nI (i + 1)) (lv' := [(2, .int (nI (i + 1))), (0, .ref (y 0)), (1, .int a)]) zx zb dX10_lost_24 hl (k := 2) rfl (nI_inc _ 1) (by decide) rfl (fun ls hl => ?_)
          refine lv_goto (tgt := 4) zx zb dX10_lost_27 (by decide) ?_
          exact ih4 (i + 1) a (by omega) (by simp [yrLostB, ha, c_15]) (by omega) _ _ hP hD hS _ (lv_sub hl [1, 2, 0] rfl)
        · have c_15 : (yrLost Y i) = true := bI_ne c_15
          refine lv_iload_n zx zb dX10_lost_18 rfl (lv_at hl 1 rfl) ?_
          refine lv_iconst (v := nI 1) zx zb dX10_lost_19 (by decide) ?_
          refine lv_iload_n zx zb dX10_lost_20 rfl (lv_at hl 2 rfl) ?_
          refine lv_ishl zx zb dX10_lost_21 ?_
          refine g_top (y := bit i) (sh31l _ (by omega)) ?_
          refine lv_ior zx zb dX10_lost_22 ?_
          refine lv_istore_n (lv' := [(1, .int (a ||| (bit i))), (0, .ref (y 0)), (2, .int (nI i))]) zx zb dX10_lost_23 rfl hl (by decide) rfl (fun ls hl => ?_)
          refine lv_iinc (v := nI (i + 1)) (lv' := [(2, .int (nI (i + 1))), (1, .int (a ||| (bit i))), (0, .ref (y 0))]) zx zb dX10_lost_24 hl (k := 2) rfl (nI_inc _ 1) (by decide) rfl (fun ls hl => ?_)
          refine lv_goto (tgt := 4) zx zb dX10_lost_27 (by decide) ?_
          exact ih4 (i + 1) (a ||| (bit i)) (by omega) (by simp [yrLostB, ha, c_15]) (by omega) _ _ hP hD hS _ (lv_sub hl [2, 1, 0] rfl)
  exact L4 _ 0 0 (by omega) (rfl) (Nat.lt_succ_self _) _ _ hP hD hS _ (lv_sub hl [2, 1, 0] rfl)

set_option maxHeartbeats 4000000 in
set_option maxRecDepth 100000 in
theorem c_X10_feetOf (Γ : GG) (l : Launch) (y : Nat → Nat) (Y : YrV) (q : Int32)  : Ci Γ l yX10_feetOf cX10_feetOf 4 (some (.int)) 0 0 0 0 [.ref (y 0), .int q] [bYr Γ y Y] (fun (r : Int32) (u : Unit) => r = yrFeet Y q 8) (fun (u : Unit) => [bYr Γ y Y]) := by
  refine Ci.of (Or.inl rfl) (by decide) (Nat.le_of_ble_eq_true rfl) ?_
  intro pp ee ss mm bb me cd AA QQ XX hnm hA hP hD fin ls hl
  obtain ⟨zx, zb, hml, hown, hts, hK⟩ := id XX
  have hS : va_S AA ss.heap ss.heap [] := va_S.rf
  have hl : lv_has ls 4 [(0, .ref (y 0)), (1, .int q)] := hl
  refine lv_iconst (v := nI 0) zx zb dX10_feetOf_0 (by decide) ?_
  refine lv_istore_n (lv' := [(2, .int (nI 0)), (0, .ref (y 0)), (1, .int q)]) zx zb dX10_feetOf_1 rfl hl (by decide) rfl (fun ls hl => ?_)
  refine lv_iconst (v := nI 0) zx zb dX10_feetOf_2 (by decide) ?_
  refine lv_istore_n (lv' := [(3, .int (nI 0)), (2, .int (nI 0)), (0, .ref (y 0)), (1, .int q)]) zx zb dX10_feetOf_3 rfl hl (by decide) rfl (fun ls hl => ?_)
  have L4 : ∀ (nn : Nat) (i : Nat) (a : Int32), (i ≤ 8) → (a = yrFeet Y q i) → 8 - i < nn → ∀ (H : Heap) (locs : List Loc), bP Γ [bYr Γ y Y] H → bD AA [bYr Γ y Y] → va_S AA ss.heap H locs → ∀ (ls : Array Slot), lv_has ls 4 [(0, .ref (y 0)), (1, .int q), (2, .int a), (3, .int (nI i))] → W pp l ee { frames := 0, cells := 0, slots := 0, locals := 0 } ss mm [.ref (y 0), .int q].toArray bb me cd H locs 0 0 QQ (F0 mm 4 ls []) := by
    intro nn
    induction nn with
    | zero => intro i a hi ha hm; exact absurd hm (Nat.not_lt_zero _)
    | succ nn ih4 =>
      intro i a hi ha hm4 H locs hP hD hS ls hl
      refine lv_iload_n zx zb dX10_feetOf_4 rfl (lv_at hl 3 rfl) ?_
      refine lv_bipush (v := nI 8) zx zb dX10_feetOf_5 (by decide) ?_
      refine lv_icmp_ge (tgt := 33) zx zb dX10_feetOf_7 (by decide) (fun c_7 => ?_) (fun c_7 => ?_)
      · have c_7 : 8 ≤ i := (nI_leI (a := 8) (b := i) (by omega) (by omega)).mp c_7
        refine lv_iload_n zx zb dX10_feetOf_33 rfl (lv_at hl 2 rfl) ?_
        exact fin _ _ a () 34 _ dX10_feetOf_34 (fun h => by cases h) (by have e : i = 8 := (by omega); subst e; exact ha) hP hD hS
      · have c_7 : ¬ (8 ≤ i) := fun h => c_7 ((nI_leI (a := 8) (b := i) (by omega) (by omega)).mpr h)
        refine lv_iload_n zx zb dX10_feetOf_10 rfl (lv_at hl 1 rfl) ?_
        refine lv_iconst (v := nI 1) zx zb dX10_feetOf_11 (by decide) ?_
        refine lv_iload_n zx zb dX10_feetOf_12 rfl (lv_at hl 3 rfl) ?_
        refine lv_ishl zx zb dX10_feetOf_13 ?_
        refine g_top (y := bit i) (sh31l _ (by omega)) ?_
        refine lv_iand zx zb dX10_feetOf_14 ?_
        refine lv_if_eq (tgt := 27) zx zb dX10_feetOf_15 (by decide) (fun c_15 => ?_) (fun c_15 => ?_)
        · have c_15 : hasB q i = false := hasB_f.mp c_15
          refine lv_iinc (v := nI (i + 1)) (lv' := [(3, .int (nI (i + 1))), (0, .ref (y 0)), (1, .int q), (2, .int a)]) zx zb dX10_feetOf_27 hl (k := 3) rfl (nI_inc _ 1) (by decide) rfl (fun ls hl => ?_)
          refine lv_goto (tgt := 4) zx zb dX10_feetOf_30 (by decide) ?_
          exact ih4 (i + 1) a (by omega) (by simp [yrFeet, ha, c_15]) (by omega) _ _ hP hD hS _ (lv_sub hl [1, 2, 3, 0] rfl)
        · have c_15 : hasB q i = true := hasB_t.mp c_15
          refine lv_iload_n zx zb dX10_feetOf_18 rfl (lv_at hl 2 rfl) ?_
          refine lv_aload_n zx zb dX10_feetOf_19 rfl (lv_at hl 0 rfl) ?_
          refine g_get (v := .ref (y 1)) XX hP 0 0 rfl rfl rfl iwX10 3 (by decide) fl_X10_9 rfl dX10_feetOf_20 ?_
          refine lv_iload_n zx zb dX10_feetOf_23 rfl (lv_at hl 3 rfl) ?_
          refine g_ialdN (i := i) XX hP 0 1 rfl rfl (by omega) (by decide) dX10_feetOf_24 ?_
          refine lv_iadd zx zb dX10_feetOf_25 ?_
          refine lv_istore_n (lv' := [(2, .int (a + (Y.2.2.2.1 i))), (0, .ref (y 0)), (1, .int q), (3, .int (nI i))]) zx zb dX10_feetOf_26 rfl hl (by decide) rfl (fun ls hl => ?_)
          refine lv_iinc (v := nI (i + 1)) (lv' := [(3, .int (nI (i + 1))), (2, .int (a + (Y.2.2.2.1 i))), (0, .ref (y 0)), (1, .int q)]) zx zb dX10_feetOf_27 hl (k := 3) rfl (nI_inc _ 1) (by decide) rfl (fun ls hl => ?_)
          refine lv_goto (tgt := 4) zx zb dX10_feetOf_30 (by decide) ?_
          exact ih4 (i + 1) (a + (Y.2.2.2.1 i)) (by omega) (by simp [yrFeet, ha, c_15]) (by omega) _ _ hP hD hS _ (lv_sub hl [2, 3, 1, 0] rfl)
  exact L4 _ 0 0 (by omega) (rfl) (Nat.lt_succ_self _) _ _ hP hD hS _ (lv_sub hl [2, 3, 1, 0] rfl)

set_option maxHeartbeats 4000000 in
set_option maxRecDepth 100000 in
theorem c_X10_flood (Γ : GG) (l : Launch) (y : Nat → Nat) (Y : YrV) (x : Nat) (hi : x < 8) : Cv Γ l yX10_flood cX10_flood 2 none 0 0 0 0 [.ref (y 0), .int (nI x)] [bYr Γ y Y] (fun (u : YrV) => u = yrFlood Y x) (fun (u : YrV) => [bYr Γ y u]) := by
  refine Cv.of rfl (by decide) (Nat.le_of_ble_eq_true rfl) ?_
  intro pp ee ss mm bb me cd AA QQ XX hnm hA hP hD fin ls hl
  obtain ⟨zx, zb, hml, hown, hts, hK⟩ := id XX
  have hS : va_S AA ss.heap ss.heap [] := va_S.rf
  have hl : lv_has ls 2 [(0, .ref (y 0)), (1, .int (nI x))] := hl
  refine lv_aload_n zx zb dX10_flood_0 rfl (lv_at hl 0 rfl) ?_
  refine g_get (v := .ref (y 2)) XX hP 0 0 rfl rfl rfl iwX10 4 (by decide) fl_X10_15 rfl dX10_flood_1 ?_
  refine lv_iload_n zx zb dX10_flood_4 rfl (lv_at hl 1 rfl) ?_
  refine lv_dup2_11 zx zb dX10_flood_5 rfl rfl ?_
  refine g_ialdN (i := x) XX hP 0 2 rfl rfl (by omega) (by decide) dX10_flood_6 ?_
  refine lv_iconst (v := nI 1) zx zb dX10_flood_7 (by decide) ?_
  refine lv_iadd zx zb dX10_flood_8 ?_
  refine g_top (y := (Y.2.2.2.2 x) + 1) rfl ?_
  refine g_iastN (x := (Y.2.2.2.2 x) + 1) (i := x) (blk' := bYr Γ y (Y.1, Y.2.1, Y.2.2.1, Y.2.2.2.1, upd Y.2.2.2.2 x ((Y.2.2.2.2 x) + 1))) (bs' := [bYr Γ y (Y.1, Y.2.1, Y.2.2.1, Y.2.2.2.1, upd Y.2.2.2.2 x ((Y.2.2.2.2 x) + 1))]) XX hP hD hS 0 2 rfl rfl (by omega) (by decide) rfl rfl dX10_flood_9 (fun H locs hP hD hS => ?_)
  refine lv_aload_n zx zb dX10_flood_10 rfl (lv_at hl 0 rfl) ?_
  refine g_get (v := .ref (y 1)) XX hP 0 0 rfl rfl rfl iwX10 3 (by decide) fl_X10_9 rfl dX10_flood_11 ?_
  refine lv_iload_n zx zb dX10_flood_14 rfl (lv_at hl 1 rfl) ?_
  refine g_ialdN (i := x) XX hP 0 1 rfl rfl (by omega) (by decide) dX10_flood_15 ?_
  refine lv_if_le (tgt := 29) zx zb dX10_flood_16 (by decide) (fun c_16 => ?_) (fun c_16 => ?_)
  · have c_16 : (Y.2.2.2.1 x) ≤ (0 : Int32) := c_16
    exact fin _ _ (Y.1, Y.2.1, Y.2.2.1, Y.2.2.2.1, upd Y.2.2.2.2 x ((Y.2.2.2.2 x) + 1)) 29 _ dX10_flood_29 (by unfold yrFlood; first | (rw [if_neg (Int32.not_lt.mpr c_16)]; try rfl) | (rw [if_pos (Int32.not_le.mp c_16)]; try rfl)) hP hD hS
  · have c_16 : ¬ ((Y.2.2.2.1 x) ≤ (0 : Int32)) := c_16
    refine lv_aload_n zx zb dX10_flood_19 rfl (lv_at hl 0 rfl) ?_
    refine g_get (v := .ref (y 1)) XX hP 0 0 rfl rfl rfl iwX10 3 (by decide) fl_X10_9 rfl dX10_flood_20 ?_
    refine lv_iload_n zx zb dX10_flood_23 rfl (lv_at hl 1 rfl) ?_
    refine lv_dup2_11 zx zb dX10_flood_24 rfl rfl ?_
    refine g_ialdN (i := x) XX hP 0 1 rfl rfl (by omega) (by decide) dX10_flood_25 ?_
    refine lv_iconst (v := nI 1) zx zb dX10_flood_26 (by decide) ?_
    refine lv_isub zx zb dX10_flood_27 ?_
    refine g_top (y := (Y.2.2.2.1 x) - 1) rfl ?_
    refine g_iastN (x := (Y.2.2.2.1 x) - 1) (i := x) (blk' := bYr Γ y (Y.1, Y.2.1, Y.2.2.1, upd Y.2.2.2.1 x ((Y.2.2.2.1 x) - 1), upd Y.2.2.2.2 x ((Y.2.2.2.2 x) + 1))) (bs' := [bYr Γ y (Y.1, Y.2.1, Y.2.2.1, upd Y.2.2.2.1 x ((Y.2.2.2.1 x) - 1), upd Y.2.2.2.2 x ((Y.2.2.2.2 x) + 1))]) XX hP hD hS 0 1 rfl rfl (by omega) (by decide) rfl rfl dX10_flood_28 (fun H locs hP hD hS => ?_)
    exact fin _ _ (Y.1, Y.2.1, Y.2.2.1, upd Y.2.2.2.1 x ((Y.2.2.2.1 x) - 1), upd Y.2.2.2.2 x ((Y.2.2.2.2 x) + 1)) 29 _ dX10_flood_29 (by unfold yrFlood; first | (rw [if_neg (Int32.not_lt.mpr c_16)]; try rfl) | (rw [if_pos (Int32.not_le.mp c_16)]; try rfl)) hP hD hS

set_option maxHeartbeats 4000000 in
set_option maxRecDepth 100000 in
theorem c_X10_begin (Γ : GG) (l : Launch) (y : Nat → Nat) (Y : YrV)  : Cv Γ l yX10_begin cX10_begin 2 none 0 0 0 0 [.ref (y 0)] [bYr Γ y Y] (fun (u : YrV) => u = yr0) (fun (u : YrV) => [bYr Γ y u]) := by
  refine Cv.of rfl (by decide) (Nat.le_of_ble_eq_true rfl) ?_
  intro pp ee ss mm bb me cd AA QQ XX hnm hA hP hD fin ls hl
  obtain ⟨zx, zb, hml, hown, hts, hK⟩ := id XX
  have hS : va_S AA ss.heap ss.heap [] := va_S.rf
  have hl : lv_has ls 2 [(0, .ref (y 0))] := hl
  refine lv_aload_n zx zb dX10_begin_0 rfl (lv_at hl 0 rfl) ?_
  refine lv_iconst (v := nI 0) zx zb dX10_begin_1 (by decide) ?_
  refine g_put (v := .int (nI 0)) (blk' := bYr Γ y (nI 0, Y.2.1, Y.2.2.1, Y.2.2.2.1, Y.2.2.2.2)) (bs' := [bYr Γ y (nI 0, Y.2.1, Y.2.2.1, Y.2.2.2.1, Y.2.2.2.2)]) XX hP hD hS 0 0 rfl rfl rfl iwX10 tyX10_ok nmX10 0 (by decide) fl_X10_18 rfl rfl rfl (Nat.le_of_ble_eq_true rfl) rfl rfl rfl dX10_begin_2 (fun H locs hP hD hS => ?_)
  refine lv_aload_n zx zb dX10_begin_5 rfl (lv_at hl 0 rfl) ?_
  refine lv_bipush (v := nI 50) zx zb dX10_begin_6 (by decide) ?_
  refine g_put (v := .int (nI 50)) (blk' := bYr Γ y (nI 0, nI 50, Y.2.2.1, Y.2.2.2.1, Y.2.2.2.2)) (bs' := [bYr Γ y (nI 0, nI 50, Y.2.2.1, Y.2.2.2.1, Y.2.2.2.2)]) XX hP hD hS 0 0 rfl rfl rfl iwX10 tyX10_ok nmX10 1 (by decide) fl_X10_22 rfl rfl rfl (Nat.le_of_ble_eq_true rfl) rfl rfl rfl dX10_begin_8 (fun H locs hP hD hS => ?_)
  refine lv_aload_n zx zb dX10_begin_11 rfl (lv_at hl 0 rfl) ?_
  refine lv_iconst (v := nI 0) zx zb dX10_begin_12 (by decide) ?_
  refine g_put (v := .int (nI 0)) (blk' := bYr Γ y (nI 0, nI 50, nI 0, Y.2.2.2.1, Y.2.2.2.2)) (bs' := [bYr Γ y (nI 0, nI 50, nI 0, Y.2.2.2.1, Y.2.2.2.2)]) XX hP hD hS 0 0 rfl rfl rfl iwX10 tyX10_ok nmX10 2 (by decide) fl_X10_25 rfl rfl rfl (Nat.le_of_ble_eq_true rfl) rfl rfl rfl dX10_begin_13 (fun H locs hP hD hS => ?_)
  refine lv_iconst (v := nI 0) zx zb dX10_begin_16 (by decide) ?_
  refine lv_istore_n (lv' := [(1, .int (nI 0)), (0, .ref (y 0))]) zx zb dX10_begin_17 rfl hl (by decide) rfl (fun ls hl => ?_)
  have L18 : ∀ (nn : Nat) (i : Nat) (f : Nat → Int32) (g : Nat → Int32), (i ≤ 8) → (∀ j, j < i → f j = 0) → (∀ j, j < i → g j = 0) → 8 - i < nn → ∀ (H : Heap) (locs : List Loc), bP Γ [bYr Γ y (nI 0, nI 50, nI 0, f, g)] H → bD AA [bYr Γ y (nI 0, nI 50, nI 0, f, g)] → va_S AA ss.heap H locs → ∀ (ls : Array Slot), lv_has ls 2 [(0, .ref (y 0)), (1, .int (nI i))] → W pp l ee { frames := 0, cells := 0, slots := 0, locals := 0 } ss mm [.ref (y 0)].toArray bb me cd H locs 0 0 QQ (F0 mm 18 ls []) := by
    intro nn
    induction nn with
    | zero => intro i f g hi hf hg hm; exact absurd hm (Nat.not_lt_zero _)
    | succ nn ih18 =>
      intro i f g hi hf hg hm18 H locs hP hD hS ls hl
      refine lv_iload_n zx zb dX10_begin_18 rfl (lv_at hl 1 rfl) ?_
      refine lv_bipush (v := nI 8) zx zb dX10_begin_19 (by decide) ?_
      refine lv_icmp_ge (tgt := 44) zx zb dX10_begin_21 (by decide) (fun c_21 => ?_) (fun c_21 => ?_)
      · have c_21 : 8 ≤ i := (nI_leI (a := 8) (b := i) (by omega) (by omega)).mp c_21
        have hP := bl_congr hP 0 1 rfl (fun _ => 0) rfl (fun j hj => hf j (by omega)) rfl rfl
        have hD := bl_congrD hD 0 1 rfl (e := .inl (Γ.2 0, 8, .inl (fun _ => 0))) rfl rfl rfl
        have hP := bl_congr hP 0 2 rfl (fun _ => 0) rfl (fun j hj => hg j (by omega)) rfl rfl
        have hD := bl_congrD hD 0 2 rfl (e := .inl (Γ.2 0, 8, .inl (fun _ => 0))) rfl rfl rfl
        have hP : bP Γ [bYr Γ y yr0] H := hP
        have hD : bD AA [bYr Γ y yr0] := hD
        exact fin _ _ yr0 44 _ dX10_begin_44 (rfl) hP hD hS
      · have c_21 : ¬ (8 ≤ i) := fun h => c_21 ((nI_leI (a := 8) (b := i) (by omega) (by omega)).mpr h)
        refine lv_aload_n zx zb dX10_begin_24 rfl (lv_at hl 0 rfl) ?_
        refine g_get (v := .ref (y 1)) XX hP 0 0 rfl rfl rfl iwX10 3 (by decide) fl_X10_9 rfl dX10_begin_25 ?_
        refine lv_iload_n zx zb dX10_begin_28 rfl (lv_at hl 1 rfl) ?_
        refine lv_iconst (v := nI 0) zx zb dX10_begin_29 (by decide) ?_
        refine g_iastN (x := nI 0) (i := i) (blk' := bYr Γ y (nI 0, nI 50, nI 0, upd f i (nI 0), g)) (bs' := [bYr Γ y (nI 0, nI 50, nI 0, upd f i (nI 0), g)]) XX hP hD hS 0 1 rfl rfl (by omega) (by decide) rfl rfl dX10_begin_30 (fun H locs hP hD hS => ?_)
        refine lv_aload_n zx zb dX10_begin_31 rfl (lv_at hl 0 rfl) ?_
        refine g_get (v := .ref (y 2)) XX hP 0 0 rfl rfl rfl iwX10 4 (by decide) fl_X10_15 rfl dX10_begin_32 ?_
        refine lv_iload_n zx zb dX10_begin_35 rfl (lv_at hl 1 rfl) ?_
        refine lv_iconst (v := nI 0) zx zb dX10_begin_36 (by decide) ?_
        refine g_iastN (x := nI 0) (i := i) (blk' := bYr Γ y (nI 0, nI 50, nI 0, upd f i (nI 0), upd g i (nI 0))) (bs' := [bYr Γ y (nI 0, nI 50, nI 0, upd f i (nI 0), upd g i (nI 0))]) XX hP hD hS 0 2 rfl rfl (by omega) (by decide) rfl rfl dX10_begin_37 (fun H locs hP hD hS => ?_)
        refine lv_iinc (v := nI (i + 1)) (lv' := [(1, .int (nI (i + 1))), (0, .ref (y 0))]) zx zb dX10_begin_38 hl (k := 1) rfl (nI_inc _ 1) (by decide) rfl (fun ls hl => ?_)
        refine lv_goto (tgt := 18) zx zb dX10_begin_41 (by decide) ?_
        exact ih18 (i + 1) (upd f i (nI 0)) (upd g i (nI 0)) (by omega) (upd_z hf) (upd_z hg) (by omega) _ _ hP hD hS _ (lv_sub hl [1, 0] rfl)
  exact L18 _ 0 Y.2.2.2.1 Y.2.2.2.2 (by omega) (fun j h => absurd h (Nat.not_lt_zero j)) (fun j h => absurd h (Nat.not_lt_zero j)) (Nat.lt_succ_self _) _ _ hP hD hS _ (lv_sub hl [1, 0] rfl)
