theorem cv_X12_41 : CWV RX12 41 RX12 yX12_begins cX12_begins 3 none 1 := ⟨cd_X12_begins, im_X12_begins, se_X12_X12_begins_X12_begins, in_X12, ml_X12_41, by decide +kernel⟩
set_option maxHeartbeats 4000000 in
set_option maxRecDepth 100000 in
theorem c_X12_begins (Γ : GG) (l : Launch) (m : Nat → Nat) (M : MoV) (b : Nat → Int32) (C : CoV) (tr : Nat → TrV) (P : Nat → YrV) (j : Nat)  : Cv Γ l yX12_begins cX12_begins 3 none 0 0 0 0 [.ref (m 0), .int (nI j)] [bMo Γ m M, bA Γ (m 1) 259 b] (fun (u : Nat → Int32) => Rel u (co0 j C) tr yr0 0 P) (fun (u : Nat → Int32) => [bMo Γ m M, bA Γ (m 1) 259 u]) := by
  refine Cv.of rfl (by decide) (Nat.le_of_ble_eq_true rfl) ?_
  intro pp ee ss mm bb me cd AA QQ XX hnm hA hP hD fin ls hl
  obtain ⟨zx, zb, hml, hown, hts, hK⟩ := id XX
  have hS : va_S AA ss.heap ss.heap [] := va_S.rf
  have hl : lv_has ls 3 [(0, .ref (m 0)), (1, .int (nI j))] := hl
  refine lv_iconst (v := nI 0) zx zb dX12_begins_0 (by decide) ?_
  refine lv_istore_n (lv' := [(2, .int (nI 0)), (0, .ref (m 0)), (1, .int (nI j))]) zx zb dX12_begins_1 rfl hl (by decide) rfl (fun ls hl => ?_)
  have L2 : ∀ (nn : Nat) (i : Nat) (b1 : Nat → Int32), (i ≤ 259) → (∀ k, k < i → b1 k = nI 0) → 259 - i < nn → ∀ (H : Heap) (locs : List Loc), bP Γ [bMo Γ m M, bA Γ (m 1) 259 b1] H → bD AA [bMo Γ m M, bA Γ (m 1) 259 b1] → va_S AA ss.heap H locs → ∀ (ls : Array Slot), lv_has ls 3 [(0, .ref (m 0)), (1, .int (nI j)), (2, .int (nI i))] → W pp l ee { frames := 0, cells := 0, slots := 0, locals := 0 } ss mm [.ref (m 0), .int (nI j)].toArray bb me cd H locs 0 0 QQ (F0 mm 2 ls []) := by
    intro nn
    induction nn with
    | zero => intro i b1 hi hz hm; exact absurd hm (Nat.not_lt_zero _)
    | succ nn ih2 =>
      intro i b1 hi hz hm2 H locs hP hD hS ls hl
      refine lv_iload_n zx zb dX12_begins_2 rfl (lv_at hl 2 rfl) ?_
      refine lv_sipush (v := nI 259) zx zb dX12_begins_3 (by decide) ?_
      refine lv_icmp_ge (tgt := 22) zx zb dX12_begins_6 (by decide) (fun c_6 => ?_) (fun c_6 => ?_)
      · have c_6 : 259 ≤ i := (nI_leI (a := 259) (b := i) (by omega) (by omega)).mp c_6
        refine lv_aload_n zx zb dX12_begins_22 rfl (lv_at hl 0 rfl) ?_
        refine g_get (v := .ref (m 1)) XX hP 0 0 rfl rfl rfl iwX12 0 (by decide) fl_X12_7 rfl dX12_begins_23 ?_
        refine lv_iconst (v := nI 0) zx zb dX12_begins_26 (by decide) ?_
        refine lv_iload_n zx zb dX12_begins_27 rfl (lv_at hl 1 rfl) ?_
        refine g_iastN (x := nI j) (i := 0) (blk' := bA Γ (m 1) 259 (upd b1 0 (nI j))) (bs' := [bMo Γ m M, bA Γ (m 1) 259 (upd b1 0 (nI j))]) XX hP hD hS 1 0 rfl rfl (by omega) (by decide) rfl rfl dX12_begins_28 (fun H locs hP hD hS => ?_)
        refine lv_aload_n zx zb dX12_begins_29 rfl (lv_at hl 0 rfl) ?_
        refine g_get (v := .ref (m 1)) XX hP 0 0 rfl rfl rfl iwX12 0 (by decide) fl_X12_7 rfl dX12_begins_30 ?_
        refine lv_iconst (v := nI 2) zx zb dX12_begins_33 (by decide) ?_
        refine lv_bipush (v := nI 50) zx zb dX12_begins_34 (by decide) ?_
        refine g_iastN (x := nI 50) (i := 2) (blk' := bA Γ (m 1) 259 (upd (upd b1 0 (nI j)) 2 (nI 50))) (bs' := [bMo Γ m M, bA Γ (m 1) 259 (upd (upd b1 0 (nI j)) 2 (nI 50))]) XX hP hD hS 1 0 rfl rfl (by omega) (by decide) rfl rfl dX12_begins_36 (fun H locs hP hD hS => ?_)
        refine lv_aload_n zx zb dX12_begins_37 rfl (lv_at hl 0 rfl) ?_
        refine g_get (v := .ref (m 1)) XX hP 0 0 rfl rfl rfl iwX12 0 (by decide) fl_X12_7 rfl dX12_begins_38 ?_
        refine lv_iconst (v := nI 3) zx zb dX12_begins_41 (by decide) ?_
        refine lv_iconst (v := nI 4) zx zb dX12_begins_42 (by decide) ?_
        refine g_iastN (x := nI 4) (i := 3) (blk' := bA Γ (m 1) 259 (upd (upd (upd b1 0 (nI j)) 2 (nI 50)) 3 (nI 4))) (bs' := [bMo Γ m M, bA Γ (m 1) 259 (upd (upd (upd b1 0 (nI j)) 2 (nI 50)) 3 (nI 4))]) XX hP hD hS 1 0 rfl rfl (by omega) (by decide) rfl rfl dX12_begins_43 (fun H locs hP hD hS => ?_)
        refine lv_iconst (v := nI 0) zx zb dX12_begins_44 (by decide) ?_
        refine lv_istore_n (lv' := [(2, .int (nI 0)), (0, .ref (m 0)), (1, .int (nI j))]) zx zb dX12_begins_45 rfl hl (by decide) rfl (fun ls hl => ?_)
        have L46 : ∀ (nn : Nat) (i : Nat) (b2 : Nat → Int32), (i ≤ 8) → (begG b2 j i) → 8 - i < nn → ∀ (H : Heap) (locs : List Loc), bP Γ [bMo Γ m M, bA Γ (m 1) 259 b2] H → bD AA [bMo Γ m M, bA Γ (m 1) 259 b2] → va_S AA ss.heap H locs → ∀ (ls : Array Slot), lv_has ls 3 [(0, .ref (m 0)), (1, .int (nI j)), (2, .int (nI i))] → W pp l ee { frames := 0, cells := 0, slots := 0, locals := 0 } ss mm [.ref (m 0), .int (nI j)].toArray bb me cd H locs 0 0 QQ (F0 mm 46 ls []) := by
          intro nn
          induction nn with
          | zero => intro i b2 hi hg hm; exact absurd hm (Nat.not_lt_zero _)
          | succ nn ih46 =>
            intro i b2 hi hg hm46 H locs hP hD hS ls hl
            refine lv_iload_n zx zb dX12_begins_46 rfl (lv_at hl 2 rfl) ?_
            refine lv_bipush (v := nI 8) zx zb dX12_begins_47 (by decide) ?_
            refine lv_icmp_ge (tgt := 95) zx zb dX12_begins_49 (by decide) (fun c_49 => ?_) (fun c_49 => ?_)
            · have c_49 : 8 ≤ i := (nI_leI (a := 8) (b := i) (by omega) (by omega)).mp c_49
              exact fin _ _ b2 95 _ dX12_begins_95 (beg_e (by have e : i = 8 := (by omega); subst e; exact hg)) hP hD hS
            · have c_49 : ¬ (8 ≤ i) := fun h => c_49 ((nI_leI (a := 8) (b := i) (by omega) (by omega)).mpr h)
              refine lv_aload_n zx zb dX12_begins_52 rfl (lv_at hl 0 rfl) ?_
              refine g_get (v := .ref (m 1)) XX hP 0 0 rfl rfl rfl iwX12 0 (by decide) fl_X12_7 rfl dX12_begins_53 ?_
              refine lv_bipush (v := nI 7) zx zb dX12_begins_56 (by decide) ?_
              refine lv_iload_n zx zb dX12_begins_58 rfl (lv_at hl 2 rfl) ?_
              refine lv_iadd zx zb dX12_begins_59 ?_
              refine g_top (y := nI (7 + i)) (nI_add 7 i) ?_
              refine lv_iconst (v := nI 3) zx zb dX12_begins_60 (by decide) ?_
              refine g_iastN (x := nI 3) (i := 7 + i) (blk' := bA Γ (m 1) 259 (upd b2 (7 + i) (nI 3))) (bs' := [bMo Γ m M, bA Γ (m 1) 259 (upd b2 (7 + i) (nI 3))]) XX hP hD hS 1 0 rfl rfl (by omega) (by decide) rfl rfl dX12_begins_61 (fun H locs hP hD hS => ?_)
              refine lv_aload_n zx zb dX12_begins_62 rfl (lv_at hl 0 rfl) ?_
              refine g_get (v := .ref (m 1)) XX hP 0 0 rfl rfl rfl iwX12 0 (by decide) fl_X12_7 rfl dX12_begins_63 ?_
              refine lv_bipush (v := nI 15) zx zb dX12_begins_66 (by decide) ?_
              refine lv_iconst (v := nI 5) zx zb dX12_begins_68 (by decide) ?_
              refine lv_iload_n zx zb dX12_begins_69 rfl (lv_at hl 2 rfl) ?_
              refine lv_imul zx zb dX12_begins_70 ?_
              refine g_top (y := nI (5 * i)) (pk_mul 5 i) ?_
              refine lv_iadd zx zb dX12_begins_71 ?_
              refine g_top (y := nI (15 + (5 * i))) (nI_add 15 (5 * i)) ?_
              refine lv_iconst (v := nI 2) zx zb dX12_begins_72 (by decide) ?_
              refine g_iastN (x := nI 2) (i := 15 + (5 * i)) (blk' := bA Γ (m 1) 259 (upd (upd b2 (7 + i) (nI 3)) (15 + (5 * i)) (nI 2))) (bs' := [bMo Γ m M, bA Γ (m 1) 259 (upd (upd b2 (7 + i) (nI 3)) (15 + (5 * i)) (nI 2))]) XX hP hD hS 1 0 rfl rfl (by omega) (by decide) rfl rfl dX12_begins_73 (fun H locs hP hD hS => ?_)
              refine lv_aload_n zx zb dX12_begins_74 rfl (lv_at hl 0 rfl) ?_
              refine g_get (v := .ref (m 1)) XX hP 0 0 rfl rfl rfl iwX12 0 (by decide) fl_X12_7 rfl dX12_begins_75 ?_
              refine lv_bipush (v := nI 15) zx zb dX12_begins_78 (by decide) ?_
              refine lv_iconst (v := nI 5) zx zb dX12_begins_80 (by decide) ?_
              refine lv_iload_n zx zb dX12_begins_81 rfl (lv_at hl 2 rfl) ?_
              refine lv_imul zx zb dX12_begins_82 ?_
              refine g_top (y := nI (5 * i)) (pk_mul 5 i) ?_
              refine lv_iadd zx zb dX12_begins_83 ?_
              refine g_top (y := nI (15 + (5 * i))) (nI_add 15 (5 * i)) ?_
              refine lv_iconst (v := nI 1) zx zb dX12_begins_84 (by decide) ?_
              refine lv_iadd zx zb dX12_begins_85 ?_
              refine g_top (y := nI (15 + (5 * i) + 1)) (nI_add (15 + (5 * i)) 1) ?_
              refine lv_bipush (v := nI 10) zx zb dX12_begins_86 (by decide) ?_
              refine g_iastN (x := nI 10) (i := 15 + (5 * i) + 1) (blk' := bA Γ (m 1) 259 (upd (upd (upd b2 (7 + i) (nI 3)) (15 + (5 * i)) (nI 2)) (15 + (5 * i) + 1) (nI 10))) (bs' := [bMo Γ m M, bA Γ (m 1) 259 (upd (upd (upd b2 (7 + i) (nI 3)) (15 + (5 * i)) (nI 2)) (15 + (5 * i) + 1) (nI 10))]) XX hP hD hS 1 0 rfl rfl (by omega) (by decide) rfl rfl dX12_begins_88 (fun H locs hP hD hS => ?_)
              refine lv_iinc (v := nI (i + 1)) (lv' := [(2, .int (nI (i + 1))), (0, .ref (m 0)), (1, .int (nI j))]) zx zb dX12_begins_89 hl (k := 2) rfl (nI_inc _ 1) (by decide) rfl (fun ls hl => ?_)
              refine lv_goto (tgt := 46) zx zb dX12_begins_92 (by decide) ?_
              exact ih46 (i + 1) (upd (upd (upd b2 (7 + i) (nI 3)) (15 + (5 * i)) (nI 2)) (15 + (5 * i) + 1) (nI 10)) (by omega) (beg_s (by omega) hg) (by omega) _ _ hP hD hS _ (lv_sub hl [1, 2, 0] rfl)
        exact L46 _ 0 (upd (upd (upd b1 0 (nI j)) 2 (nI 50)) 3 (nI 4)) (by omega) (beg_0 (fun k hk => hz k (by omega))) (Nat.lt_succ_self _) _ _ hP hD hS _ (lv_sub hl [1, 2, 0] rfl)
      · have c_6 : ¬ (259 ≤ i) := fun h => c_6 ((nI_leI (a := 259) (b := i) (by omega) (by omega)).mpr h)
        refine lv_aload_n zx zb dX12_begins_9 rfl (lv_at hl 0 rfl) ?_
        refine g_get (v := .ref (m 1)) XX hP 0 0 rfl rfl rfl iwX12 0 (by decide) fl_X12_7 rfl dX12_begins_10 ?_
        refine lv_iload_n zx zb dX12_begins_13 rfl (lv_at hl 2 rfl) ?_
        refine lv_iconst (v := nI 0) zx zb dX12_begins_14 (by decide) ?_
        refine g_iastN (x := nI 0) (i := i) (blk' := bA Γ (m 1) 259 (upd b1 i (nI 0))) (bs' := [bMo Γ m M, bA Γ (m 1) 259 (upd b1 i (nI 0))]) XX hP hD hS 1 0 rfl rfl (by omega) (by decide) rfl rfl dX12_begins_15 (fun H locs hP hD hS => ?_)
        refine lv_iinc (v := nI (i + 1)) (lv' := [(2, .int (nI (i + 1))), (0, .ref (m 0)), (1, .int (nI j))]) zx zb dX12_begins_16 hl (k := 2) rfl (nI_inc _ 1) (by decide) rfl (fun ls hl => ?_)
        refine lv_goto (tgt := 2) zx zb dX12_begins_19 (by decide) ?_
        exact ih2 (i + 1) (upd b1 i (nI 0)) (by omega) (beg_z hz) (by omega) _ _ hP hD hS _ (lv_sub hl [1, 2, 0] rfl)
  exact L2 _ 0 b (by omega) (fun k hk => absurd hk (Nat.not_lt_zero _)) (Nat.lt_succ_self _) _ _ hP hD hS _ (lv_sub hl [1, 2, 0] rfl)

set_option maxHeartbeats 4000000 in
set_option maxRecDepth 100000 in
theorem c_X12_coast (Γ : GG) (l : Launch) (m : Nat → Nat) (M : MoV) (b : Nat → Int32) (C : CoV) (tr : Nat → TrV) (Y : YrV) (pc : Nat) (P : Nat → YrV) (f : Nat → Int32) (n : Int32) (hr : Rel b C tr Y pc P) (hI : Inv C tr Y) : Ci Γ l yX12_coast cX12_coast 3 (some (.int)) 2 42 0 0 [.ref (m 0), .int n] [bMo Γ m M, bA Γ (m 1) 259 b, bA Γ (m 6) 3 f] (fun (r : Int32) (u : (Nat → Int32) × (Nat → Int32)) => r = tCoR n C ∧ Rel u.1 (tCo n C Y).1 tr (tCo n C Y).2 (okP (wi n 1 8) pc) P ∧ u.2 = moV M f (wi n 1 8)) (fun (u : (Nat → Int32) × (Nat → Int32)) => [bMo Γ m M, bA Γ (m 1) 259 u.1, bA Γ (m 6) 3 u.2]) := by
  refine Ci.of (Or.inl rfl) (by decide) (Nat.le_of_ble_eq_true rfl) ?_
  intro pp ee ss mm bb me cd AA QQ XX hnm hA hP hD fin ls hl
  obtain ⟨zx, zb, hml, hown, hts, hK⟩ := id XX
  have hS : va_S AA ss.heap ss.heap [] := va_S.rf
  have hl : lv_has ls 3 [(0, .ref (m 0)), (1, .int n)] := hl
  have htc := inv_tc hI
  have hdc := inv_dc hI
  have hn := inv_n hI
  refine lv_iload_n zx zb dX12_coast_0 rfl (lv_at hl 1 rfl) ?_
  refine lv_i2l (v := n.toInt64) zx zb dX12_coast_1 rfl ?_
  refine lv_lconst (v := (1 : Int32).toInt64) zx zb dX12_coast_2 (by decide) ?_
  refine lv_ldc2 zx zb hown (hts _ kl_X12_57) dX12_coast_3 ?_
  refine g_topl (y := (8 : Int32).toInt64) (by decide) ?_
  refine callR_Si (As := [.long n.toInt64, .long ((1 : Int32).toInt64), .long ((8 : Int32).toInt64)]) (rest := []) XX cs_X12_53 (c_X12_in Γ l n 1 8 ) hP hD hS hA nil_mem nil_D rfl hl.1 rfl ⟨⟨by decide, by decide⟩, by decide, by decide⟩ (Nat.le_of_ble_eq_true rfl) dX12_coast_6 (fun r_6 H locs hw hP hS => ?_)
  have hw := hw.symm
  subst hw
  refine lv_if_ne (tgt := 17) zx zb dX12_coast_9 (by decide) (fun c_9 => ?_) (fun c_9 => ?_)
  · have c_9 : (wi n 1 8) = true := bI_ne c_9
    obtain ⟨j, hj, rfl⟩ := wi_nat 1 8 c_9 rfl rfl (by decide)
    refine lv_aload_n zx zb dX12_coast_17 rfl (lv_at hl 0 rfl) ?_
    refine g_get (v := .ref (m 1)) XX hP 0 0 rfl rfl rfl iwX12 0 (by decide) fl_X12_7 rfl dX12_coast_18 ?_
    refine lv_iconst (v := nI 0) zx zb dX12_coast_21 (by decide) ?_
    refine g_ialdN (i := 0) XX hP 1 0 rfl rfl (by omega) (by decide) dX12_coast_22 ?_
    refine g_top (y := nI (C.1)) (Rel.n hr) ?_
    refine lv_istore_n (lv' := [(2, .int (nI (C.1))), (0, .ref (m 0)), (1, .int (nI j))]) zx zb dX12_coast_23 rfl hl (by decide) rfl (fun ls hl => ?_)
    refine lv_aload_n zx zb dX12_coast_24 rfl (lv_at hl 1 rfl) ?_
    refine lv_iload_n zx zb dX12_coast_25 rfl (lv_at hl 2 rfl) ?_
    refine call_Vv (As := [.int (nI j)]) (rest := []) XX cv_X12_41 (c_X12_begins Γ l m M b C tr P j ) hP hD hS hA [0, 1] (by decide) rfl (fun _ => rfl) 0 0 rfl rfl rfl rfl hl.1 rfl ⟨⟨by decide, by decide⟩, by decide, by decide⟩ (Nat.le_of_ble_eq_true rfl) dX12_coast_26 (fun u H locs hw hP hD hS => ?_)
    obtain ⟨u_26, rfl⟩ : ∃ z, z = u := ⟨_, rfl⟩
    have w_26 := hw
    have hP : bP Γ [bMo Γ m M, bA Γ (m 1) 259 u_26, bA Γ (m 6) 3 f] H := hP
    have hD : bD AA [bMo Γ m M, bA Γ (m 1) 259 u_26, bA Γ (m 6) 3 f] := hD
    refine lv_iload_n zx zb dX12_coast_29 rfl (lv_at hl 0 rfl) ?_
    exact fin _ _ (nI (C.1)) (u_26, f) 30 _ dX12_coast_30 (fun h => by cases h) (coast_ok (by omega) w_26 c_9) hP hD hS
  · have c_9 : (wi n 1 8) = false := bI_0.mp c_9
    refine lv_aload_n zx zb dX12_coast_12 rfl (lv_at hl 0 rfl) ?_
    refine call_Vi (As := []) (rest := []) XX cv_X12_59 (c_X12_bad Γ l m M f ) hP hD hS hA [0, 2] (by decide) rfl (fun _ => rfl) 0 0 rfl rfl rfl rfl hl.1 rfl ⟨⟨by decide, by decide⟩, by decide, by decide⟩ (Nat.le_of_ble_eq_true rfl) dX12_coast_13 (fun r_13 u H locs hw hP hD hS => ?_)
    obtain ⟨hw1, hw2⟩ := hw
    have hw1 := hw1.symm
    have hw2 := hw2.symm
    subst hw1
    subst hw2
    have hP : bP Γ [bMo Γ m M, bA Γ (m 1) 259 b, bA Γ (m 6) 3 (moRef M f 0)] H := hP
    have hD : bD AA [bMo Γ m M, bA Γ (m 1) 259 b, bA Γ (m 6) 3 (moRef M f 0)] := hD
    exact fin _ _ (-2) (b, (moRef M f 0)) 16 _ dX12_coast_16 (fun h => by cases h) (coast_no hr c_9) hP hD hS
