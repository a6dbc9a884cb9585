
set_option maxHeartbeats 4000000 in
set_option maxRecDepth 100000 in
theorem c_X12_cheapest (Γ : GG) (l : Launch) (m : Nat → Nat) (M : MoV) (b : Nat → Int32) (C : CoV) (tr : Nat → TrV) (Y : YrV) (pc : Nat) (P : Nat → YrV) (hh : Nat → Int32) (f : Nat → Int32) (y : Nat) (q : Int32) (a : Int32) (w : Int32) (hr : Rel b C tr Y pc P) (hI : Inv C tr Y) (hpc : pc ≤ 6) (hy : Y.1 = nI y) (hyb : y + 30 < 1000000) : Ci Γ l yX12_cheapest cX12_cheapest 8 (some (.int)) 4 98 0 0 [.ref (m 0), .int q, .int a, .int w] [bMo Γ m M, bA Γ (m 1) 259 b, bA Γ (m 5) 259 hh, bA Γ (m 6) 3 f] (fun (r : Int32) (u : (Nat → Int32) × (Nat → Int32) × (Nat → Int32)) => r = chR C tr Y q a w ∧ Rel u.1 C tr Y pc P ∧ u.2.2 = moV M f (chOk C q a w)) (fun (u : (Nat → Int32) × (Nat → Int32) × (Nat → Int32)) => [bMo Γ m M, bA Γ (m 1) 259 u.1, bA Γ (m 5) 259 u.2.1, bA Γ (m 6) 3 u.2.2]) := by
  refine Ci.of (Or.inl rfl) (by decide) (Nat.le_of_ble_eq_true rfl) ?_
  intro pp ee ss mm bb me cd AA QQ XX hnm hA hP hD fin ls hl
  obtain ⟨zx, zb, hml, hown, hts, hK⟩ := id XX
  have hS : va_S AA ss.heap ss.heap [] := va_S.rf
  have hl : lv_has ls 8 [(0, .ref (m 0)), (1, .int q), (2, .int a), (3, .int w)] := hl
  have htc := inv_tc hI
  have hdc := inv_dc hI
  have hn := inv_n hI
  refine lv_aload_n zx zb dX12_cheapest_0 rfl (lv_at hl 0 rfl) ?_
  refine lv_iload_n zx zb dX12_cheapest_1 rfl (lv_at hl 1 rfl) ?_
  refine call_Vi (As := [.int q]) (rest := []) XX cv_X12_254 (c_X12_areCells Γ l m M b C tr Y pc P q (hr) (hn)) hP hD hS hA [0, 1] (by decide) rfl (fun _ => rfl) 0 0 rfl rfl rfl rfl hl.1 rfl ⟨⟨by decide, by decide⟩, by decide, by decide⟩ (Nat.le_of_ble_eq_true rfl) dX12_cheapest_2 (fun r_2 u H locs hw hP hD hS => ?_)
  have hw := hw.symm
  subst hw
  have hP : bP Γ [bMo Γ m M, bA Γ (m 1) 259 b, bA Γ (m 5) 259 hh, bA Γ (m 6) 3 f] H := hP
  have hD : bD AA [bMo Γ m M, bA Γ (m 1) 259 b, bA Γ (m 5) 259 hh, bA Γ (m 6) 3 f] := hD
  refine lv_if_eq (tgt := 30) zx zb dX12_cheapest_5 (by decide) (fun c_5 => ?_) (fun c_5 => ?_)
  · have c_5 : (wi q 0 (bit C.1 - 1)) = false := bI_0.mp c_5
    refine lv_aload_n zx zb dX12_cheapest_30 rfl (lv_at hl 0 rfl) ?_
    refine lv_iconst (v := nI 0) zx zb dX12_cheapest_31 (by decide) ?_
    refine lv_bipush (v := (-10)) zx zb dX12_cheapest_32 (by decide) ?_
    refine call_Vi (As := [.int (nI 0), .int (-10)]) (rest := []) XX cv_X12_49 (c_X12_refuses Γ l m M f 0 (-10) (by decide)) hP hD hS hA [0, 3] (by decide) rfl (fun _ => rfl) 0 0 rfl rfl rfl rfl hl.1 rfl ⟨⟨by decide, by decide⟩, by decide, by decide⟩ (Nat.le_of_ble_eq_true rfl) dX12_cheapest_34 (fun r_34 u H locs hw hP hD hS => ?_)
    obtain ⟨hw1, hw2⟩ := hw
    have hw1 := hw1.symm
    have hw2 := hw2.symm
    subst hw1
    subst hw2
    have hP : bP Γ [bMo Γ m M, bA Γ (m 1) 259 b, bA Γ (m 5) 259 hh, bA Γ (m 6) 3 (moRef M f 0)] H := hP
    have hD : bD AA [bMo Γ m M, bA Γ (m 1) 259 b, bA Γ (m 5) 259 hh, bA Γ (m 6) 3 (moRef M f 0)] := hD
    exact fin _ _ (-10) (b, hh, (moRef M f 0)) 37 _ dX12_cheapest_37 (fun h => by cases h) (by first | exact ⟨ch_b (chk_1 c_5), hr, mo_f (chk_1 c_5)⟩ | exact ⟨ch_b (chk_2 c_17), hr, mo_f (chk_2 c_17)⟩ | exact ⟨ch_b (chk_3 c_27), hr, mo_f (chk_3 c_27)⟩) hP hD hS
  · have c_5 : (wi q 0 (bit C.1 - 1)) = true := bI_ne c_5
    refine lv_iload_n zx zb dX12_cheapest_8 rfl (lv_at hl 2 rfl) ?_
    refine lv_i2l (v := a.toInt64) zx zb dX12_cheapest_9 rfl ?_
    refine lv_lconst (v := (1 : Int32).toInt64) zx zb dX12_cheapest_10 (by decide) ?_
    refine lv_ldc2 zx zb hown (hts _ kl_X12_249) dX12_cheapest_11 ?_
    refine g_topl (y := (12 : Int32).toInt64) (by decide) ?_
    refine callR_Si (As := [.long a.toInt64, .long ((1 : Int32).toInt64), .long ((12 : Int32).toInt64)]) (rest := []) XX cs_X12_53 (c_X12_in Γ l a 1 12 ) hP hD hS hA nil_mem nil_D rfl hl.1 rfl ⟨⟨by decide, by decide⟩, by decide, by decide⟩ (Nat.le_of_ble_eq_true rfl) dX12_cheapest_14 (fun r_14 H locs hw hP hS => ?_)
    have hw := hw.symm
    subst hw
    refine lv_if_eq (tgt := 30) zx zb dX12_cheapest_17 (by decide) (fun c_17 => ?_) (fun c_17 => ?_)
    · have c_17 : (wi a 1 12) = false := bI_0.mp c_17
      refine lv_aload_n zx zb dX12_cheapest_30 rfl (lv_at hl 0 rfl) ?_
      refine lv_iconst (v := nI 0) zx zb dX12_cheapest_31 (by decide) ?_
      refine lv_bipush (v := (-10)) zx zb dX12_cheapest_32 (by decide) ?_
      refine call_Vi (As := [.int (nI 0), .int (-10)]) (rest := []) XX cv_X12_49 (c_X12_refuses Γ l m M f 0 (-10) (by decide)) hP hD hS hA [0, 3] (by decide) rfl (fun _ => rfl) 0 0 rfl rfl rfl rfl hl.1 rfl ⟨⟨by decide, by decide⟩, by decide, by decide⟩ (Nat.le_of_ble_eq_true rfl) dX12_cheapest_34 (fun r_34 u H locs hw hP hD hS => ?_)
      obtain ⟨hw1, hw2⟩ := hw
      have hw1 := hw1.symm
      have hw2 := hw2.symm
      subst hw1
      subst hw2
      have hP : bP Γ [bMo Γ m M, bA Γ (m 1) 259 b, bA Γ (m 5) 259 hh, bA Γ (m 6) 3 (moRef M f 0)] H := hP
      have hD : bD AA [bMo Γ m M, bA Γ (m 1) 259 b, bA Γ (m 5) 259 hh, bA Γ (m 6) 3 (moRef M f 0)] := hD
      exact fin _ _ (-10) (b, hh, (moRef M f 0)) 37 _ dX12_cheapest_37 (fun h => by cases h) (by first | exact ⟨ch_b (chk_1 c_5), hr, mo_f (chk_1 c_5)⟩ | exact ⟨ch_b (chk_2 c_17), hr, mo_f (chk_2 c_17)⟩ | exact ⟨ch_b (chk_3 c_27), hr, mo_f (chk_3 c_27)⟩) hP hD hS
    · have c_17 : (wi a 1 12) = true := bI_ne c_17
      refine lv_iload_n zx zb dX12_cheapest_20 rfl (lv_at hl 3 rfl) ?_
      refine lv_i2l (v := w.toInt64) zx zb dX12_cheapest_21 rfl ?_
      refine lv_lconst (v := (0 : Int32).toInt64) zx zb dX12_cheapest_22 (by decide) ?_
      refine lv_lconst (v := (1 : Int32).toInt64) zx zb dX12_cheapest_23 (by decide) ?_
      refine callR_Si (As := [.long w.toInt64, .long ((0 : Int32).toInt64), .long ((1 : Int32).toInt64)]) (rest := []) XX cs_X12_53 (c_X12_in Γ l w 0 1 ) hP hD hS hA nil_mem nil_D rfl hl.1 rfl ⟨⟨by decide, by decide⟩, by decide, by decide⟩ (Nat.le_of_ble_eq_true rfl) dX12_cheapest_24 (fun r_24 H locs hw hP hS => ?_)
      have hw := hw.symm
      subst hw
      refine lv_if_ne (tgt := 38) zx zb dX12_cheapest_27 (by decide) (fun c_27 => ?_) (fun c_27 => ?_)
      · have c_27 : (wi w 0 1) = true := bI_ne c_27
        obtain ⟨j, hj, rfl⟩ := wi_nat 1 12 c_17 rfl rfl (by decide)
        refine lv_aload_n zx zb dX12_cheapest_38 rfl (lv_at hl 0 rfl) ?_
        refine call_Vv (As := []) (rest := []) XX cv_X12_234 (c_X12_holdsRow Γ l m M b hh ) hP hD hS hA [0, 1, 2] (by decide) rfl (fun _ => rfl) 0 0 rfl rfl rfl rfl hl.1 rfl ⟨⟨by decide, by decide⟩, by decide, by decide⟩ (Nat.le_of_ble_eq_true rfl) dX12_cheapest_39 (fun u H locs hw hP hD hS => ?_)
        obtain ⟨u_39, rfl⟩ : ∃ z, z = u := ⟨_, rfl⟩
        have w_39 := hw
        have hP : bP Γ [bMo Γ m M, bA Γ (m 1) 259 b, bA Γ (m 5) 259 u_39, bA Γ (m 6) 3 f] H := hP
        have hD : bD AA [bMo Γ m M, bA Γ (m 1) 259 b, bA Γ (m 5) 259 u_39, bA Γ (m 6) 3 f] := hD
        refine lv_iconst (v := nI 0) zx zb dX12_cheapest_42 (by decide) ?_
        refine lv_istore (lv' := [(4, .int (nI 0)), (0, .ref (m 0)), (1, .int q), (2, .int (nI j)), (3, .int w)]) zx zb dX12_cheapest_43 hl (by decide) rfl (fun ls hl => ?_)
        have L45 : ∀ (nn : Nat) (f0 : Nat) (b1 : Nat → Int32), (f0 ≤ 10) → (∀ i, i < f0 → decide (chX C tr Y q j i < coN C) = false) → (Rel b1 C tr Y pc P) → 10 - f0 < nn → ∀ (H : Heap) (locs : List Loc), bP Γ [bMo Γ m M, bA Γ (m 1) 259 b1, bA Γ (m 5) 259 u_39, bA Γ (m 6) 3 f] H → bD AA [bMo Γ m M, bA Γ (m 1) 259 b1, bA Γ (m 5) 259 u_39, bA Γ (m 6) 3 f] → va_S AA ss.heap H locs → ∀ (ls : Array Slot), lv_has ls 8 [(0, .ref (m 0)), (1, .int q), (2, .int (nI j)), (3, .int w), (4, .int (nI f0))] → W pp l ee { frames := 4, cells := 0, slots := 0, locals := 98 } ss mm [.ref (m 0), .int q, .int (nI j), .int w].toArray bb me cd H locs 0 0 QQ (F0 mm 45 ls []) := by
          intro nn
          induction nn with
          | zero => intro f0 b1 hf hp hr1 hm; exact absurd hm (Nat.not_lt_zero _)
          | succ nn ih45 =>
            intro f0 b1 hf hp hr1 hm45 H locs hP hD hS ls hl
            refine lv_iload zx zb dX12_cheapest_45 (lv_at hl 4 rfl) ?_
            refine lv_bipush (v := nI 10) zx zb dX12_cheapest_47 (by decide) ?_
            refine lv_icmp_ge (tgt := 173) zx zb dX12_cheapest_49 (by decide) (fun c_49 => ?_) (fun c_49 => ?_)
            · have c_49 : 10 ≤ f0 := (nI_leI (a := 10) (b := f0) (by omega) (by omega)).mp c_49
              refine lv_iconst (v := (-1)) zx zb dX12_cheapest_173 (by decide) ?_
              exact fin _ _ (-1) (b1, u_39, f) 174 _ dX12_cheapest_174 (fun h => by cases h) (⟨(ch_none (V := (0, 0, 0)) (Q := Y) (chk_4 c_5 c_17 c_27) (by omega) (by have e : f0 = 10 := (by omega); subst e; exact firstN_eq hp (Or.inr rfl))).1, hr1, mo_t (chk_4 c_5 c_17 c_27)⟩) hP hD hS
            · have c_49 : ¬ (10 ≤ f0) := fun h => c_49 ((nI_leI (a := 10) (b := f0) (by omega) (by omega)).mpr h)
              refine lv_iconst (v := nI 0) zx zb dX12_cheapest_52 (by decide) ?_
              refine lv_istore (lv' := [(5, .int (nI 0)), (0, .ref (m 0)), (1, .int q), (2, .int (nI j)), (3, .int w), (4, .int (nI f0))]) zx zb dX12_cheapest_53 hl (by decide) rfl (fun ls hl => ?_)
              have L55 : ∀ (nn : Nat) (x1 : Nat) (b2 : Nat → Int32), (x1 ≤ C.1) → (∀ i, i < x1 → sdP C tr Y q j i (nI f0) = false) → (Rel b2 C tr Y pc P) → C.1 - x1 < nn → ∀ (H : Heap) (locs : List Loc), bP Γ [bMo Γ m M, bA Γ (m 1) 259 b2, bA Γ (m 5) 259 u_39, bA Γ (m 6) 3 f] H → bD AA [bMo Γ m M, bA Γ (m 1) 259 b2, bA Γ (m 5) 259 u_39, bA Γ (m 6) 3 f] → va_S AA ss.heap H locs → ∀ (ls : Array Slot), lv_has ls 8 [(0, .ref (m 0)), (1, .int q), (2, .int (nI j)), (3, .int w), (4, .int (nI f0)), (5, .int (nI x1))] → W pp l ee { frames := 4, cells := 0, slots := 0, locals := 98 } ss mm [.ref (m 0), .int q, .int (nI j), .int w].toArray bb me cd H locs 0 0 QQ (F0 mm 55 ls []) := by
                intro nn
                induction nn with
                | zero => intro x1 b2 hx hs hr1 hm; exact absurd hm (Nat.not_lt_zero _)
                | succ nn ih55 =>
                  intro x1 b2 hx hs hr1 hm55 H locs hP hD hS ls hl
                  refine lv_iload zx zb dX12_cheapest_55 (lv_at hl 5 rfl) ?_
                  refine lv_aload_n zx zb dX12_cheapest_57 rfl (lv_at hl 0 rfl) ?_
                  refine g_get (v := .ref (m 1)) XX hP 0 0 rfl rfl rfl iwX12 0 (by decide) fl_X12_7 rfl dX12_cheapest_58 ?_
                  refine lv_iconst (v := nI 0) zx zb dX12_cheapest_61 (by decide) ?_
                  refine g_ialdN (i := 0) XX hP 1 0 rfl rfl (by omega) (by decide) dX12_cheapest_62 ?_
                  refine g_top (y := nI (C.1)) (Rel.n hr1) ?_
                  refine lv_icmp_ge (tgt := 167) zx zb dX12_cheapest_63 (by decide) (fun c_63 => ?_) (fun c_63 => ?_)
                  · have c_63 : C.1 ≤ x1 := (nI_leI (a := C.1) (b := x1) (by omega) (by omega)).mp c_63
                    refine lv_iinc (v := nI (f0 + 1)) (lv' := [(4, .int (nI (f0 + 1))), (0, .ref (m 0)), (1, .int q), (2, .int (nI j)), (3, .int w), (5, .int (nI x1))]) zx zb dX12_cheapest_167 hl (k := 4) rfl (nI_inc _ 1) (by decide) rfl (fun ls hl => ?_)
                    refine lv_goto (tgt := 45) zx zb dX12_cheapest_170 (by decide) ?_
                    exact ih45 (f0 + 1) b2 (by omega) (lt_s hp (decide_eq_false (by unfold chX; rw [firstN_eq hs (Or.inr (show x1 = C.1 by omega))]; show ¬ x1 < C.1; omega))) (hr1) (by omega) _ _ hP hD hS _ (lv_sub hl [1, 2, 3, 4, 0] rfl)
                  · have c_63 : ¬ (C.1 ≤ x1) := fun h => c_63 ((nI_leI (a := C.1) (b := x1) (by omega) (by omega)).mpr h)
                    refine lv_aload_n zx zb dX12_cheapest_66 rfl (lv_at hl 0 rfl) ?_
                    refine g_get (v := .ref (m 1)) XX hP 0 0 rfl rfl rfl iwX12 0 (by decide) fl_X12_7 rfl dX12_cheapest_67 ?_
                    refine lv_iload zx zb dX12_cheapest_70 (lv_at hl 5 rfl) ?_
                    refine lv_iconst (v := nI 3) zx zb dX12_cheapest_72 (by decide) ?_
                    refine callR_Si (As := [.int (nI x1), .int (nI 3)]) (rest := [.ref (m 1)]) XX cs_X12_73 (c_X12_at Γ l x1 3 ) hP hD hS hA nil_mem nil_D rfl hl.1 rfl ⟨⟨by decide, by decide⟩, by decide, by decide⟩ (Nat.le_of_ble_eq_true rfl) dX12_cheapest_73 (fun r_73 H locs hw hP hS => ?_)
                    have hw := hw.symm
                    subst hw
                    refine g_ialdN (i := 15 + 5 * x1 + 3) XX hP 1 0 rfl rfl (by omega) (by decide) dX12_cheapest_76 ?_
                    refine g_top (y := Y.2.2.2.1 x1) (Rel.c3 hr1 (by omega)) ?_
                    refine lv_iload zx zb dX12_cheapest_77 (lv_at hl 4 rfl) ?_
                    refine lv_iadd zx zb dX12_cheapest_79 ?_
                    refine lv_bipush (v := nI 9) zx zb dX12_cheapest_80 (by decide) ?_
                    refine lv_icmp_gt (tgt := 161) zx zb dX12_cheapest_82 (by decide) (fun c_82 => ?_) (fun c_82 => ?_)
                    · have c_82 : (9 : Int32) < ((Y.2.2.2.1 x1) + (nI f0)) := c_82
                      refine lv_iinc (v := nI (x1 + 1)) (lv' := [(5, .int (nI (x1 + 1))), (0, .ref (m 0)), (1, .int q), (2, .int (nI j)), (3, .int w), (4, .int (nI f0))]) zx zb dX12_cheapest_161 hl (k := 5) rfl (nI_inc _ 1) (by decide) rfl (fun ls hl => ?_)
                      refine lv_goto (tgt := 55) zx zb dX12_cheapest_164 (by decide) ?_
                      exact ih55 (x1 + 1) b2 (by omega) (lt_s hs (by first | exact sd_1 c_82 | exact sd_2 eD ha2 c_146)) (by first | exact hr1 | exact Rel_cpy (fun k hk => (w_139 k hk).trans (w_39 k hk)) hr htc hdc hpc) (by omega) _ _ hP hD hS _ (lv_sub hl [1, 2, 3, 4, 5, 0] rfl)
                    · have c_82 : ¬ ((9 : Int32) < ((Y.2.2.2.1 x1) + (nI f0))) := c_82
                      refine lv_aload_n zx zb dX12_cheapest_85 rfl (lv_at hl 0 rfl) ?_
                      refine g_get (v := .ref (m 1)) XX hP 0 0 rfl rfl rfl iwX12 0 (by decide) fl_X12_7 rfl dX12_cheapest_86 ?_
                      refine lv_iload zx zb dX12_cheapest_89 (lv_at hl 5 rfl) ?_
                      refine lv_iconst (v := nI 3) zx zb dX12_cheapest_91 (by decide) ?_
                      refine callR_Si (As := [.int (nI x1), .int (nI 3)]) (rest := [.ref (m 1)]) XX cs_X12_73 (c_X12_at Γ l x1 3 ) hP hD hS hA nil_mem nil_D rfl hl.1 rfl ⟨⟨by decide, by decide⟩, by decide, by decide⟩ (Nat.le_of_ble_eq_true rfl) dX12_cheapest_92 (fun r_92 H locs hw hP hS => ?_)
                      have hw := hw.symm
                      subst hw
                      refine lv_dup2_11 zx zb dX12_cheapest_95 rfl rfl ?_
                      refine g_ialdN (i := 15 + 5 * x1 + 3) XX hP 1 0 rfl rfl (by omega) (by decide) dX12_cheapest_96 ?_
                      refine g_top (y := Y.2.2.2.1 x1) (Rel.c3 hr1 (by omega)) ?_
                      refine lv_iload zx zb dX12_cheapest_97 (lv_at hl 4 rfl) ?_
                      refine lv_iadd zx zb dX12_cheapest_99 ?_
                      refine g_iastN (x := (Y.2.2.2.1 x1) + (nI f0)) (i := 15 + 5 * x1 + 3) (blk' := bA Γ (m 1) 259 (upd b2 (15 + 5 * x1 + 3) ((Y.2.2.2.1 x1) + (nI f0)))) (bs' := [bMo Γ m M, bA Γ (m 1) 259 (upd b2 (15 + 5 * x1 + 3) ((Y.2.2.2.1 x1) + (nI f0))), bA Γ (m 5) 259 u_39, bA Γ (m 6) 3 f]) XX hP hD hS 1 0 rfl rfl (by omega) (by decide) rfl rfl dX12_cheapest_100 (fun H locs hP hD hS => ?_)
                      have hr1 := Rel_dike (v := (Y.2.2.2.1 x1) + (nI f0)) hr1 htc hdc (show x1 < 8 by omega)
                      generalize upd b2 (15 + 5 * x1 + 3) ((Y.2.2.2.1 x1) + (nI f0)) = b_100 at hP hD hr1
                      obtain ⟨Y_100, eY_100⟩ : ∃ Zq_ : YrV, Zq_ = (Y.1, Y.2.1, Y.2.2.1, upd Y.2.2.2.1 x1 ((Y.2.2.2.1 x1) + (nI f0)), Y.2.2.2.2) := ⟨_, rfl⟩
                      rw [← eY_100] at hr1
                      have eD : Y_100 = dkUp Y x1 (nI f0) := eY_100
                      have hy9 : Y_100.1 = nI y := by rw [eY_100]; exact hy
                      have hI9 : Inv C tr Y_100 := inv_cong hI (by rw [eY_100])
                      refine lv_iconst (v := nI 0) zx zb dX12_cheapest_101 (by decide) ?_
                      refine lv_istore (lv' := [(6, .int (nI 0)), (0, .ref (m 0)), (1, .int q), (2, .int (nI j)), (3, .int w), (4, .int (nI f0)), (5, .int (nI x1))]) zx zb dX12_cheapest_102 hl (by decide) rfl (fun ls hl => ?_)
                      refine lv_iconst (v := nI 0) zx zb dX12_cheapest_104 (by decide) ?_
                      refine lv_istore (lv' := [(7, .int (nI 0)), (6, .int (nI 0)), (0, .ref (m 0)), (1, .int q), (2, .int (nI j)), (3, .int w), (4, .int (nI f0)), (5, .int (nI x1))]) zx zb dX12_cheapest_105 hl (by decide) rfl (fun ls hl => ?_)
                      have L107 : ∀ (nn : Nat) (i : Nat) (a2 : Int32) (b3 : Nat → Int32), (i ≤ j) → (a2 = orF C tr Y_100 i) → (Rel b3 C tr (runM C tr Y_100 i) pc P) → j - i < nn → ∀ (H : Heap) (locs : List Loc), bP Γ [bMo Γ m M, bA Γ (m 1) 259 b3, bA Γ (m 5) 259 u_39, bA Γ (m 6) 3 f] H → bD AA [bMo Γ m M, bA Γ (m 1) 259 b3, bA Γ (m 5) 259 u_39, bA Γ (m 6) 3 f] → va_S AA ss.heap H locs → ∀ (ls : Array Slot), lv_has ls 8 [(0, .ref (m 0)), (1, .int q), (2, .int (nI j)), (3, .int w), (4, .int (nI f0)), (5, .int (nI x1)), (6, .int a2), (7, .int (nI i))] → W pp l ee { frames := 4, cells := 0, slots := 0, locals := 98 } ss mm [.ref (m 0), .int q, .int (nI j), .int w].toArray bb me cd H locs 0 0 QQ (F0 mm 107 ls []) := by
                        intro nn
                        induction nn with
                        | zero => intro i a2 b3 hi ha2 hr2 hm; exact absurd hm (Nat.not_lt_zero _)
                        | succ nn ih107 =>
                          intro i a2 b3 hi ha2 hr2 hm107 H locs hP hD hS ls hl
                          have hIZ : Inv C tr (runM C tr Y_100 i) := inv_run hI9 hy9 (by omega)
                          refine lv_iload zx zb dX12_cheapest_107 (lv_at hl 7 rfl) ?_
                          refine lv_iload_n zx zb dX12_cheapest_109 rfl (lv_at hl 2 rfl) ?_
                          refine lv_icmp_ge (tgt := 138) zx zb dX12_cheapest_110 (by decide) (fun c_110 => ?_) (fun c_110 => ?_)
                          · have c_110 : j ≤ i := (nI_leI (a := j) (b := i) (by omega) (by omega)).mp c_110
                            have ei : i = j := (by omega)
                            have ha2 : a2 = orF C tr Y_100 j := ei ▸ ha2
                            refine lv_aload_n zx zb dX12_cheapest_138 rfl (lv_at hl 0 rfl) ?_
                            refine call_Vv (As := []) (rest := []) XX cv_X12_240 (c_X12_laysBack Γ l m M b3 u_39 ) hP hD hS hA [0, 1, 2] (by decide) rfl (fun _ => rfl) 0 0 rfl rfl rfl rfl hl.1 rfl ⟨⟨by decide, by decide⟩, by decide, by decide⟩ (Nat.le_of_ble_eq_true rfl) dX12_cheapest_139 (fun u H locs hw hP hD hS => ?_)
                            obtain ⟨u_139, rfl⟩ : ∃ z, z = u := ⟨_, rfl⟩
                            have w_139 := hw
                            have hP : bP Γ [bMo Γ m M, bA Γ (m 1) 259 u_139, bA Γ (m 5) 259 u_39, bA Γ (m 6) 3 f] H := hP
                            have hD : bD AA [bMo Γ m M, bA Γ (m 1) 259 u_139, bA Γ (m 5) 259 u_39, bA Γ (m 6) 3 f] := hD
                            refine lv_iload zx zb dX12_cheapest_142 (lv_at hl 6 rfl) ?_
                            refine lv_iload_n zx zb dX12_cheapest_144 rfl (lv_at hl 1 rfl) ?_
                            refine lv_iand zx zb dX12_cheapest_145 ?_
                            refine lv_if_ne (tgt := 161) zx zb dX12_cheapest_146 (by decide) (fun c_146 => ?_) (fun c_146 => ?_)
                            · have c_146 : ¬ ((a2 &&& q) = (0 : Int32)) := c_146
                              refine lv_iinc (v := nI (x1 + 1)) (lv' := [(5, .int (nI (x1 + 1))), (0, .ref (m 0)), (1, .int q), (2, .int (nI j)), (3, .int w), (4, .int (nI f0)), (6, .int a2), (7, .int (nI i))]) zx zb dX12_cheapest_161 hl (k := 5) rfl (nI_inc _ 1) (by decide) rfl (fun ls hl => ?_)
                              refine lv_goto (tgt := 55) zx zb dX12_cheapest_164 (by decide) ?_
                              exact ih55 (x1 + 1) u_139 (by omega) (lt_s hs (by first | exact sd_1 c_82 | exact sd_2 eD ha2 c_146)) (by first | exact hr1 | exact Rel_cpy (fun k hk => (w_139 k hk).trans (w_39 k hk)) hr htc hdc hpc) (by omega) _ _ hP hD hS _ (lv_sub hl [1, 2, 3, 4, 5, 0] rfl)
                            · have c_146 : (a2 &&& q) = (0 : Int32) := c_146
                              refine lv_iload_n zx zb dX12_cheapest_149 rfl (lv_at hl 3 rfl) ?_
                              refine lv_if_ne (tgt := 158) zx zb dX12_cheapest_150 (by decide) (fun c_150 => ?_) (fun c_150 => ?_)
                              · have c_150 : ¬ (w = (0 : Int32)) := c_150
                                refine lv_iload zx zb dX12_cheapest_158 (lv_at hl 5 rfl) ?_
                                exact fin _ _ (nI x1) (u_139, u_39, f) 160 _ dX12_cheapest_160 (fun h => by cases h) (by have e1 : chX C tr Y q j f0 = x1 := firstN_eq hs (Or.inl ⟨show x1 < C.1 by omega, sd_3 eD ha2 c_82 c_146⟩); have e2 : chF C tr Y q j = f0 := firstN_eq hp (Or.inl ⟨by omega, decide_eq_true (by rw [e1]; show x1 < C.1; omega)⟩); exact ⟨(ch_hit (V := (0, 0, 0)) (Q := Y) (chk_4 c_5 c_17 c_27) (by omega) e1 e2 (by omega) (by first | exact Or.inl ⟨c_150, rfl⟩ | exact Or.inr ⟨c_150, rfl⟩)).1, Rel_cpy (fun k hk => (w_139 k hk).trans (w_39 k hk)) hr htc hdc hpc, mo_t (chk_4 c_5 c_17 c_27)⟩) hP hD hS
                              · have c_150 : w = (0 : Int32) := c_150
                                refine lv_iload zx zb dX12_cheapest_153 (lv_at hl 4 rfl) ?_
                                refine lv_goto (tgt := 160) zx zb dX12_cheapest_155 (by decide) ?_
                                exact fin _ _ (nI f0) (u_139, u_39, f) 160 _ dX12_cheapest_160 (fun h => by cases h) (by have e1 : chX C tr Y q j f0 = x1 := firstN_eq hs (Or.inl ⟨show x1 < C.1 by omega, sd_3 eD ha2 c_82 c_146⟩); have e2 : chF C tr Y q j = f0 := firstN_eq hp (Or.inl ⟨by omega, decide_eq_true (by rw [e1]; show x1 < C.1; omega)⟩); exact ⟨(ch_hit (V := (0, 0, 0)) (Q := Y) (chk_4 c_5 c_17 c_27) (by omega) e1 e2 (by omega) (by first | exact Or.inl ⟨c_150, rfl⟩ | exact Or.inr ⟨c_150, rfl⟩)).1, Rel_cpy (fun k hk => (w_139 k hk).trans (w_39 k hk)) hr htc hdc hpc, mo_t (chk_4 c_5 c_17 c_27)⟩) hP hD hS
                          · have c_110 : ¬ (j ≤ i) := fun h => c_110 ((nI_leI (a := j) (b := i) (by omega) (by omega)).mpr h)
                            refine lv_iload zx zb dX12_cheapest_113 (lv_at hl 6 rfl) ?_
                            refine lv_aload_n zx zb dX12_cheapest_115 rfl (lv_at hl 0 rfl) ?_
                            refine lv_aload_n zx zb dX12_cheapest_116 rfl (lv_at hl 0 rfl) ?_
                            refine lv_aload_n zx zb dX12_cheapest_117 rfl (lv_at hl 0 rfl) ?_
                            refine g_get (v := .ref (m 1)) XX hP 0 0 rfl rfl rfl iwX12 0 (by decide) fl_X12_7 rfl dX12_cheapest_118 ?_
                            refine lv_iconst (v := nI 1) zx zb dX12_cheapest_121 (by decide) ?_
                            refine g_ialdN (i := 1) XX hP 1 0 rfl rfl (by omega) (by decide) dX12_cheapest_122 ?_
                            refine g_top (y := (runM C tr Y_100 i).1) (Rel.y hr2) ?_
                            refine call_Vi (As := [.int ((runM C tr Y_100 i).1)]) (rest := [.ref (m 0), .int a2]) XX cv_X12_215 (c_X12_stormOf Γ l m M b3 C tr (runM C tr Y_100 i) pc P ((runM C tr Y_100 i).1) (hr2) (hIZ) (inv_y hIZ)) hP hD hS hA [0, 1] (by decide) rfl (fun _ => rfl) 0 0 rfl rfl rfl rfl hl.1 rfl ⟨⟨by decide, by decide⟩, by decide, by decide⟩ (Nat.le_of_ble_eq_true rfl) dX12_cheapest_123 (fun r_123 u H locs hw hP hD hS => ?_)
                            have hw := hw.symm
                            subst hw
                            have hP : bP Γ [bMo Γ m M, bA Γ (m 1) 259 b3, bA Γ (m 5) 259 u_39, bA Γ (m 6) 3 f] H := hP
                            have hD : bD AA [bMo Γ m M, bA Γ (m 1) 259 b3, bA Γ (m 5) 259 u_39, bA Γ (m 6) 3 f] := hD
                            refine call_Vi (As := [.int (coStorm C ((runM C tr Y_100 i).1))]) (rest := [.int a2]) XX cv_X12_218 (c_X12_goes Γ l m M b3 C tr (runM C tr Y_100 i) pc P (coStorm C ((runM C tr Y_100 i).1)) (hr2) (hIZ)) hP hD hS hA [0, 1] (by decide) rfl (fun _ => rfl) 0 0 rfl rfl rfl rfl hl.1 rfl ⟨⟨by decide, by decide⟩, by decide, by decide⟩ (Nat.le_of_ble_eq_true rfl) dX12_cheapest_126 (fun r_126 u H locs hw hP hD hS => ?_)
                            obtain ⟨u_126, rfl⟩ : ∃ z, z = u := ⟨_, rfl⟩
                            have w_126 := hw
                            have hP : bP Γ [bMo Γ m M, bA Γ (m 1) 259 u_126, bA Γ (m 5) 259 u_39, bA Γ (m 6) 3 f] H := hP
                            have hD : bD AA [bMo Γ m M, bA Γ (m 1) 259 u_126, bA Γ (m 5) 259 u_39, bA Γ (m 6) 3 f] := hD
                            refine lv_ior zx zb dX12_cheapest_129 ?_
                            refine lv_istore (lv' := [(6, .int (a2 ||| r_126)), (0, .ref (m 0)), (1, .int q), (2, .int (nI j)), (3, .int w), (4, .int (nI f0)), (5, .int (nI x1)), (7, .int (nI i))]) zx zb dX12_cheapest_130 hl (by decide) rfl (fun ls hl => ?_)
                            refine lv_iinc (v := nI (i + 1)) (lv' := [(7, .int (nI (i + 1))), (6, .int (a2 ||| r_126)), (0, .ref (m 0)), (1, .int q), (2, .int (nI j)), (3, .int w), (4, .int (nI f0)), (5, .int (nI x1))]) zx zb dX12_cheapest_132 hl (k := 7) rfl (nI_inc _ 1) (by decide) rfl (fun ls hl => ?_)
                            refine lv_goto (tgt := 107) zx zb dX12_cheapest_135 (by decide) ?_
                            exact ih107 (i + 1) (a2 ||| r_126) u_126 (by omega) (by rw [orF, ← ha2, w_126.1]; rfl) (w_126.2) (by omega) _ _ hP hD hS _ (lv_sub hl [2, 3, 4, 5, 6, 7, 1, 0] rfl)
                      exact L107 _ 0 0 b_100 (by omega) (rfl) (hr1) (Nat.lt_succ_self _) _ _ hP hD hS _ (lv_sub hl [2, 3, 4, 5, 6, 7, 1, 0] rfl)
              exact L55 _ 0 b1 (by omega) (lt_0) (hr1) (Nat.lt_succ_self _) _ _ hP hD hS _ (lv_sub hl [1, 2, 3, 4, 5, 0] rfl)
        exact L45 _ 0 b (by omega) (lt_0) (hr) (Nat.lt_succ_self _) _ _ hP hD hS _ (lv_sub hl [1, 2, 3, 4, 0] rfl)
      · have c_27 : (wi w 0 1) = false := bI_0.mp c_27
        refine lv_aload_n zx zb dX12_cheapest_30 rfl (lv_at hl 0 rfl) ?_
        refine lv_iconst (v := nI 0) zx zb dX12_cheapest_31 (by decide) ?_
        refine lv_bipush (v := (-10)) zx zb dX12_cheapest_32 (by decide) ?_
        refine call_Vi (As := [.int (nI 0), .int (-10)]) (rest := []) XX cv_X12_49 (c_X12_refuses Γ l m M f 0 (-10) (by decide)) hP hD hS hA [0, 3] (by decide) rfl (fun _ => rfl) 0 0 rfl rfl rfl rfl hl.1 rfl ⟨⟨by decide, by decide⟩, by decide, by decide⟩ (Nat.le_of_ble_eq_true rfl) dX12_cheapest_34 (fun r_34 u H locs hw hP hD hS => ?_)
        obtain ⟨hw1, hw2⟩ := hw
        have hw1 := hw1.symm
        have hw2 := hw2.symm
        subst hw1
        subst hw2
        have hP : bP Γ [bMo Γ m M, bA Γ (m 1) 259 b, bA Γ (m 5) 259 hh, bA Γ (m 6) 3 (moRef M f 0)] H := hP
        have hD : bD AA [bMo Γ m M, bA Γ (m 1) 259 b, bA Γ (m 5) 259 hh, bA Γ (m 6) 3 (moRef M f 0)] := hD
        exact fin _ _ (-10) (b, hh, (moRef M f 0)) 37 _ dX12_cheapest_37 (fun h => by cases h) (by first | exact ⟨ch_b (chk_1 c_5), hr, mo_f (chk_1 c_5)⟩ | exact ⟨ch_b (chk_2 c_17), hr, mo_f (chk_2 c_17)⟩ | exact ⟨ch_b (chk_3 c_27), hr, mo_f (chk_3 c_27)⟩) hP hD hS

set_option maxHeartbeats 4000000 in
set_option maxRecDepth 100000 in
theorem c_X12_offer (Γ : GG) (l : Launch) (m : Nat → Nat) (M : MoV) (b : Nat → Int32) (C : CoV) (tr : Nat → TrV) (Y : YrV) (pc : Nat) (P : Nat → YrV) (hh : Nat → Int32) (f : Nat → Int32) (y : Nat) (a : Int32) (c : Int32) (n : Int32) (w : Int32) (hr : Rel b C tr Y pc P) (hI : Inv C tr Y) (hV : InvY C Y) (hN : InvN C tr Y) (hpc : pc ≤ 6) (hy : Y.1 = nI y) (hyb : y + 30 < 1000000) : Ci Γ l yX12_offer cX12_offer 10 (some (.int)) 5 121 0 0 [.ref (m 0), .int a, .int c, .int n, .int w] [bMo Γ m M, bA Γ (m 1) 259 b, bA Γ (m 5) 259 hh, bA Γ (m 6) 3 f] (fun (r : Int32) (u : (Nat → Int32) × (Nat → Int32) × (Nat → Int32)) => r = offR C tr Y a c n w ∧ Rel u.1 C tr Y pc P ∧ u.2.2 = offF M f C a c n w) (fun (u : (Nat → Int32) × (Nat → Int32) × (Nat → Int32)) => [bMo Γ m M, bA Γ (m 1) 259 u.1, bA Γ (m 5) 259 u.2.1, bA Γ (m 6) 3 u.2.2]) := by
  refine Ci.of (Or.inl rfl) (by decide) (Nat.le_of_ble_eq_true rfl) ?_
  intro pp ee ss mm bb me cd AA QQ XX hnm hA hP hD fin ls hl
  obtain ⟨zx, zb, hml, hown, hts, hK⟩ := id XX
  have hS : va_S AA ss.heap ss.heap [] := va_S.rf
  have hl : lv_has ls 10 [(0, .ref (m 0)), (1, .int a), (2, .int c), (3, .int n), (4, .int w)] := hl
  have htc := inv_tc hI
  have hdc := inv_dc hI
  have hn := inv_n hI
  refine lv_aload_n zx zb dX12_offer_0 rfl (lv_at hl 0 rfl) ?_
  refine lv_iload_n zx zb dX12_offer_1 rfl (lv_at hl 2 rfl) ?_
  refine call_Vi (As := [.int c]) (rest := []) XX cv_X12_63 (c_X12_isCell Γ l m M b C tr Y pc P c (hr)) hP hD hS hA [0, 1] (by decide) rfl (fun _ => rfl) 0 0 rfl rfl rfl rfl hl.1 rfl ⟨⟨by decide, by decide⟩, by decide, by decide⟩ (Nat.le_of_ble_eq_true rfl) dX12_offer_2 (fun r_2 u H locs hw hP hD hS => ?_)
  have hw := hw.symm
  subst hw
  have hP : bP Γ [bMo Γ m M, bA Γ (m 1) 259 b, bA Γ (m 5) 259 hh, bA Γ (m 6) 3 f] H := hP
  have hD : bD AA [bMo Γ m M, bA Γ (m 1) 259 b, bA Γ (m 5) 259 hh, bA Γ (m 6) 3 f] := hD
  refine lv_if_eq (tgt := 42) zx zb dX12_offer_5 (by decide) (fun c_5 => ?_) (fun c_5 => ?_)
  · have c_5 : (stCell C c) = false := bI_0.mp c_5
    refine lv_aload_n zx zb dX12_offer_42 rfl (lv_at hl 0 rfl) ?_
    refine lv_iconst (v := nI 0) zx zb dX12_offer_43 (by decide) ?_
    refine lv_sipush (v := (-1000)) zx zb dX12_offer_44 (by decide) ?_
    refine call_Vi (As := [.int (nI 0), .int (-1000)]) (rest := []) XX cv_X12_49 (c_X12_refuses Γ l m M f 0 (-1000) (by decide)) hP hD hS hA [0, 3] (by decide) rfl (fun _ => rfl) 0 0 rfl rfl rfl rfl hl.1 rfl ⟨⟨by decide, by decide⟩, by decide, by decide⟩ (Nat.le_of_ble_eq_true rfl) dX12_offer_47 (fun r_47 u H locs hw hP hD hS => ?_)
    obtain ⟨hw1, hw2⟩ := hw
    have hw1 := hw1.symm
    have hw2 := hw2.symm
    subst hw1
    subst hw2
    have hP : bP Γ [bMo Γ m M, bA Γ (m 1) 259 b, bA Γ (m 5) 259 hh, bA Γ (m 6) 3 (moRef M f 0)] H := hP
    have hD : bD AA [bMo Γ m M, bA Γ (m 1) 259 b, bA Γ (m 5) 259 hh, bA Γ (m 6) 3 (moRef M f 0)] := hD
    exact fin _ _ (-1000) (b, hh, (moRef M f 0)) 50 _ dX12_offer_50 (fun h => by cases h) (by first | exact ⟨(of_bad (M := M) (f := f) (ofo_1 c_5)).1, hr, (of_bad (tr := tr) (Y := Y) (ofo_1 c_5)).2⟩ | exact ⟨(of_bad (M := M) (f := f) (ofo_2 c_16)).1, hr, (of_bad (tr := tr) (Y := Y) (ofo_2 c_16)).2⟩ | exact ⟨(of_bad (M := M) (f := f) (ofo_3 c_28)).1, hr, (of_bad (tr := tr) (Y := Y) (ofo_3 c_28)).2⟩ | exact ⟨(of_bad (M := M) (f := f) (ofo_4 c_39)).1, hr, (of_bad (tr := tr) (Y := Y) (ofo_4 c_39)).2⟩) hP hD hS
  · have c_5 : (stCell C c) = true := bI_ne c_5
    refine lv_iload_n zx zb dX12_offer_8 rfl (lv_at hl 1 rfl) ?_
    refine lv_i2l (v := a.toInt64) zx zb dX12_offer_9 rfl ?_
    refine lv_lconst (v := (0 : Int32).toInt64) zx zb dX12_offer_10 (by decide) ?_
    refine lv_iload_n zx zb dX12_offer_11 rfl (lv_at hl 2 rfl) ?_
    refine lv_i2l (v := c.toInt64) zx zb dX12_offer_12 rfl ?_
    refine callR_Si (As := [.long a.toInt64, .long ((0 : Int32).toInt64), .long c.toInt64]) (rest := []) XX cs_X12_53 (c_X12_in Γ l a 0 c ) hP hD hS hA nil_mem nil_D rfl hl.1 rfl ⟨⟨by decide, by decide⟩, by decide, by decide⟩ (Nat.le_of_ble_eq_true rfl) dX12_offer_13 (fun r_13 H locs hw hP hS => ?_)
    have hw := hw.symm
    subst hw
    refine lv_if_eq (tgt := 42) zx zb dX12_offer_16 (by decide) (fun c_16 => ?_) (fun c_16 => ?_)
    · have c_16 : (wi a 0 c) = false := bI_0.mp c_16
      refine lv_aload_n zx zb dX12_offer_42 rfl (lv_at hl 0 rfl) ?_
      refine lv_iconst (v := nI 0) zx zb dX12_offer_43 (by decide) ?_
      refine lv_sipush (v := (-1000)) zx zb dX12_offer_44 (by decide) ?_
      refine call_Vi (As := [.int (nI 0), .int (-1000)]) (rest := []) XX cv_X12_49 (c_X12_refuses Γ l m M f 0 (-1000) (by decide)) hP hD hS hA [0, 3] (by decide) rfl (fun _ => rfl) 0 0 rfl rfl rfl rfl hl.1 rfl ⟨⟨by decide, by decide⟩, by decide, by decide⟩ (Nat.le_of_ble_eq_true rfl) dX12_offer_47 (fun r_47 u H locs hw hP hD hS => ?_)
      obtain ⟨hw1, hw2⟩ := hw
      have hw1 := hw1.symm
      have hw2 := hw2.symm
      subst hw1
      subst hw2
      have hP : bP Γ [bMo Γ m M, bA Γ (m 1) 259 b, bA Γ (m 5) 259 hh, bA Γ (m 6) 3 (moRef M f 0)] H := hP
      have hD : bD AA [bMo Γ m M, bA Γ (m 1) 259 b, bA Γ (m 5) 259 hh, bA Γ (m 6) 3 (moRef M f 0)] := hD
      exact fin _ _ (-1000) (b, hh, (moRef M f 0)) 50 _ dX12_offer_50 (fun h => by cases h) (by first | exact ⟨(of_bad (M := M) (f := f) (ofo_1 c_5)).1, hr, (of_bad (tr := tr) (Y := Y) (ofo_1 c_5)).2⟩ | exact ⟨(of_bad (M := M) (f := f) (ofo_2 c_16)).1, hr, (of_bad (tr := tr) (Y := Y) (ofo_2 c_16)).2⟩ | exact ⟨(of_bad (M := M) (f := f) (ofo_3 c_28)).1, hr, (of_bad (tr := tr) (Y := Y) (ofo_3 c_28)).2⟩ | exact ⟨(of_bad (M := M) (f := f) (ofo_4 c_39)).1, hr, (of_bad (tr := tr) (Y := Y) (ofo_4 c_39)).2⟩) hP hD hS
    · have c_16 : (wi a 0 c) = true := bI_ne c_16
      refine lv_iload_n zx zb dX12_offer_19 rfl (lv_at hl 3 rfl) ?_
      refine lv_i2l (v := n.toInt64) zx zb dX12_offer_20 rfl ?_
      refine lv_lconst (v := (1 : Int32).toInt64) zx zb dX12_offer_21 (by decide) ?_
      refine lv_ldc2 zx zb hown (hts _ kl_X12_249) dX12_offer_22 ?_
      refine g_topl (y := (12 : Int32).toInt64) (by decide) ?_
      refine callR_Si (As := [.long n.toInt64, .long ((1 : Int32).toInt64), .long ((12 : Int32).toInt64)]) (rest := []) XX cs_X12_53 (c_X12_in Γ l n 1 12 ) hP hD hS hA nil_mem nil_D rfl hl.1 rfl ⟨⟨by decide, by decide⟩, by decide, by decide⟩ (Nat.le_of_ble_eq_true rfl) dX12_offer_25 (fun r_25 H locs hw hP hS => ?_)
      have hw := hw.symm
      subst hw
      refine lv_if_eq (tgt := 42) zx zb dX12_offer_28 (by decide) (fun c_28 => ?_) (fun c_28 => ?_)
      · have c_28 : (wi n 1 12) = false := bI_0.mp c_28
        refine lv_aload_n zx zb dX12_offer_42 rfl (lv_at hl 0 rfl) ?_
        refine lv_iconst (v := nI 0) zx zb dX12_offer_43 (by decide) ?_
        refine lv_sipush (v := (-1000)) zx zb dX12_offer_44 (by decide) ?_
        refine call_Vi (As := [.int (nI 0), .int (-1000)]) (rest := []) XX cv_X12_49 (c_X12_refuses Γ l m M f 0 (-1000) (by decide)) hP hD hS hA [0, 3] (by decide) rfl (fun _ => rfl) 0 0 rfl rfl rfl rfl hl.1 rfl ⟨⟨by decide, by decide⟩, by decide, by decide⟩ (Nat.le_of_ble_eq_true rfl) dX12_offer_47 (fun r_47 u H locs hw hP hD hS => ?_)
        obtain ⟨hw1, hw2⟩ := hw
        have hw1 := hw1.symm
        have hw2 := hw2.symm
        subst hw1
        subst hw2
        have hP : bP Γ [bMo Γ m M, bA Γ (m 1) 259 b, bA Γ (m 5) 259 hh, bA Γ (m 6) 3 (moRef M f 0)] H := hP
        have hD : bD AA [bMo Γ m M, bA Γ (m 1) 259 b, bA Γ (m 5) 259 hh, bA Γ (m 6) 3 (moRef M f 0)] := hD
        exact fin _ _ (-1000) (b, hh, (moRef M f 0)) 50 _ dX12_offer_50 (fun h => by cases h) (by first | exact ⟨(of_bad (M := M) (f := f) (ofo_1 c_5)).1, hr, (of_bad (tr := tr) (Y := Y) (ofo_1 c_5)).2⟩ | exact ⟨(of_bad (M := M) (f := f) (ofo_2 c_16)).1, hr, (of_bad (tr := tr) (Y := Y) (ofo_2 c_16)).2⟩ | exact ⟨(of_bad (M := M) (f := f) (ofo_3 c_28)).1, hr, (of_bad (tr := tr) (Y := Y) (ofo_3 c_28)).2⟩ | exact ⟨(of_bad (M := M) (f := f) (ofo_4 c_39)).1, hr, (of_bad (tr := tr) (Y := Y) (ofo_4 c_39)).2⟩) hP hD hS
      · have c_28 : (wi n 1 12) = true := bI_ne c_28
        refine lv_iload zx zb dX12_offer_31 (lv_at hl 4 rfl) ?_
        refine lv_i2l (v := w.toInt64) zx zb dX12_offer_33 rfl ?_
        refine lv_lconst (v := (0 : Int32).toInt64) zx zb dX12_offer_34 (by decide) ?_
        refine lv_lconst (v := (1 : Int32).toInt64) zx zb dX12_offer_35 (by decide) ?_
        refine callR_Si (As := [.long w.toInt64, .long ((0 : Int32).toInt64), .long ((1 : Int32).toInt64)]) (rest := []) XX cs_X12_53 (c_X12_in Γ l w 0 1 ) hP hD hS hA nil_mem nil_D rfl hl.1 rfl ⟨⟨by decide, by decide⟩, by decide, by decide⟩ (Nat.le_of_ble_eq_true rfl) dX12_offer_36 (fun r_36 H locs hw hP hS => ?_)
        have hw := hw.symm
        subst hw
        refine lv_if_ne (tgt := 51) zx zb dX12_offer_39 (by decide) (fun c_39 => ?_) (fun c_39 => ?_)
        · have c_39 : (wi w 0 1) = true := bI_ne c_39
          obtain ⟨j, hj, rfl⟩ := wi_nat 1 12 c_28 rfl rfl (by decide)
          refine lv_aload_n zx zb dX12_offer_51 rfl (lv_at hl 0 rfl) ?_
          refine g_get (v := .ref (m 1)) XX hP 0 0 rfl rfl rfl iwX12 0 (by decide) fl_X12_7 rfl dX12_offer_52 ?_
          refine lv_iconst (v := nI 4) zx zb dX12_offer_55 (by decide) ?_
          refine g_ialdN (i := 4) XX hP 1 0 rfl rfl (by omega) (by decide) dX12_offer_56 ?_
          refine g_top (y := nI (C.2.2.2.2.2.2.1)) (Rel.tc hr) ?_
          refine lv_bipush (v := nI 6) zx zb dX12_offer_57 (by decide) ?_
          refine lv_icmp_ne (tgt := 71) zx zb dX12_offer_59 (by decide) (fun c_59 => ?_) (fun c_59 => ?_)
          · have c_59 : ¬ (C.2.2.2.2.2.2.1 = 6) := fun h => c_59 ((nI_eq (a := C.2.2.2.2.2.2.1) (b := 6) (by omega) (by omega)).mpr h)
            obtain ⟨jc, hjc, ejc⟩ := cell_nat c_5 hn
            obtain ⟨ja, hja, eja⟩ := in_nat c_16 ejc (by omega)
            have h6 : C.2.2.2.2.2.2.1 < 6 := by omega
            have h00 := offK_0 (m := j) hI hN hV h6 hy hyb (by omega) eja ejc hja hjc
            refine lv_aload_n zx zb dX12_offer_71 rfl (lv_at hl 0 rfl) ?_
            refine call_Vv (As := []) (rest := []) XX cv_X12_234 (c_X12_holdsRow Γ l m M b hh ) hP hD hS hA [0, 1, 2] (by decide) rfl (fun _ => rfl) 0 0 rfl rfl rfl rfl hl.1 rfl ⟨⟨by decide, by decide⟩, by decide, by decide⟩ (Nat.le_of_ble_eq_true rfl) dX12_offer_72 (fun u H locs hw hP hD hS => ?_)
            obtain ⟨u_72, rfl⟩ : ∃ z, z = u := ⟨_, rfl⟩
            have w_72 := hw
            have hP : bP Γ [bMo Γ m M, bA Γ (m 1) 259 b, bA Γ (m 5) 259 u_72, bA Γ (m 6) 3 f] H := hP
            have hD : bD AA [bMo Γ m M, bA Γ (m 1) 259 b, bA Γ (m 5) 259 u_72, bA Γ (m 6) 3 f] := hD
            refine lv_aload_n zx zb dX12_offer_75 rfl (lv_at hl 0 rfl) ?_
            refine lv_iload_n zx zb dX12_offer_76 rfl (lv_at hl 3 rfl) ?_
            refine call_Vi (As := [.int (nI j)]) (rest := []) XX cv_X12_251 (c_X12_floodsIn Γ l m M b C tr Y pc P j y (hr) (hI) (by omega) (by omega)) hP hD hS hA [0, 1] (by decide) rfl (fun _ => rfl) 0 0 rfl rfl rfl rfl hl.1 rfl ⟨⟨by decide, by decide⟩, by decide, by decide⟩ (Nat.le_of_ble_eq_true rfl) dX12_offer_77 (fun r_77 u H locs hw hP hD hS => ?_)
            obtain ⟨u_77, rfl⟩ : ∃ z, z = u := ⟨_, rfl⟩
            have w_77 := hw
            have hP : bP Γ [bMo Γ m M, bA Γ (m 1) 259 u_77, bA Γ (m 5) 259 u_72, bA Γ (m 6) 3 f] H := hP
            have hD : bD AA [bMo Γ m M, bA Γ (m 1) 259 u_77, bA Γ (m 5) 259 u_72, bA Γ (m 6) 3 f] := hD
            refine lv_istore (lv' := [(5, .int r_77), (0, .ref (m 0)), (1, .int a), (2, .int c), (3, .int (nI j)), (4, .int w)]) zx zb dX12_offer_80 hl (by decide) rfl (fun ls hl => ?_)
            refine lv_aload_n zx zb dX12_offer_82 rfl (lv_at hl 1 rfl) ?_
            refine call_Vv (As := []) (rest := []) XX cv_X12_240 (c_X12_laysBack Γ l m M u_77 u_72 ) hP hD hS hA [0, 1, 2] (by decide) rfl (fun _ => rfl) 0 0 rfl rfl rfl rfl hl.1 rfl ⟨⟨by decide, by decide⟩, by decide, by decide⟩ (Nat.le_of_ble_eq_true rfl) dX12_offer_83 (fun u H locs hw hP hD hS => ?_)
            obtain ⟨u_83, rfl⟩ : ∃ z, z = u := ⟨_, rfl⟩
            have w_83 := hw
            have hP : bP Γ [bMo Γ m M, bA Γ (m 1) 259 u_83, bA Γ (m 5) 259 u_72, bA Γ (m 6) 3 f] H := hP
            have hD : bD AA [bMo Γ m M, bA Γ (m 1) 259 u_83, bA Γ (m 5) 259 u_72, bA Γ (m 6) 3 f] := hD
            have hr7 := Rel_cpy (fun k hk => (w_83 k hk).trans (w_72 k hk)) hr htc hdc hpc
            refine lv_aload_n zx zb dX12_offer_86 rfl (lv_at hl 1 rfl) ?_
            refine g_get (v := .ref (m 1)) XX hP 0 0 rfl rfl rfl iwX12 0 (by decide) fl_X12_7 rfl dX12_offer_87 ?_
            refine lv_iconst (v := nI 4) zx zb dX12_offer_90 (by decide) ?_
            refine g_ialdN (i := 4) XX hP 1 0 rfl rfl (by omega) (by decide) dX12_offer_91 ?_
            refine g_top (y := nI (C.2.2.2.2.2.2.1)) (Rel.tc hr7) ?_
            refine lv_istore (lv' := [(6, .int (nI (C.2.2.2.2.2.2.1))), (5, .int r_77), (0, .ref (m 0)), (1, .int a), (2, .int c), (3, .int (nI j)), (4, .int w)]) zx zb dX12_offer_92 hl (by decide) rfl (fun ls hl => ?_)
            refine lv_bipush (v := nI 21) zx zb dX12_offer_94 (by decide) ?_
            refine lv_istore (lv' := [(7, .int (nI 21)), (6, .int (nI (C.2.2.2.2.2.2.1))), (5, .int r_77), (0, .ref (m 0)), (1, .int a), (2, .int c), (3, .int (nI j)), (4, .int w)]) zx zb dX12_offer_96 hl (by decide) rfl (fun ls hl => ?_)
            refine lv_iconst (v := nI 0) zx zb dX12_offer_98 (by decide) ?_
            refine lv_istore (lv' := [(8, .int (nI 0)), (7, .int (nI 21)), (6, .int (nI (C.2.2.2.2.2.2.1))), (5, .int r_77), (0, .ref (m 0)), (1, .int a), (2, .int c), (3, .int (nI j)), (4, .int w)]) zx zb dX12_offer_99 hl (by decide) rfl (fun ls hl => ?_)
            refine lv_iconst (v := nI 1) zx zb dX12_offer_101 (by decide) ?_
            refine lv_istore (lv' := [(9, .int (nI 1)), (8, .int (nI 0)), (7, .int (nI 21)), (6, .int (nI (C.2.2.2.2.2.2.1))), (5, .int r_77), (0, .ref (m 0)), (1, .int a), (2, .int c), (3, .int (nI j)), (4, .int w)]) zx zb dX12_offer_102 hl (by decide) rfl (fun ls hl => ?_)
            have L104 : ∀ (nn : Nat) (q : Nat) (fw : Int32) (z9 : Bool) (b1 : Nat → Int32), (q ≤ 21) → (offG C tr Y a c j r_77 q z9 fw) → (Rel b1 C tr Y pc P) → q < nn → ∀ (H : Heap) (locs : List Loc), bP Γ [bMo Γ m M, bA Γ (m 1) 259 b1, bA Γ (m 5) 259 u_72, bA Γ (m 6) 3 f] H → bD AA [bMo Γ m M, bA Γ (m 1) 259 b1, bA Γ (m 5) 259 u_72, bA Γ (m 6) 3 f] → va_S AA ss.heap H locs → ∀ (ls : Array Slot), lv_has ls 10 [(0, .ref (m 0)), (1, .int a), (2, .int c), (3, .int (nI j)), (4, .int w), (5, .int r_77), (6, .int (nI (C.2.2.2.2.2.2.1))), (7, .int (nI q)), (8, .int fw), (9, .int (bI z9))] → W pp l ee { frames := 5, cells := 0, slots := 0, locals := 121 } ss mm [.ref (m 0), .int a, .int c, .int (nI j), .int w].toArray bb me cd H locs 0 0 QQ (F0 mm 104 ls []) := by
              intro nn
              induction nn with
              | zero => intro q fw z9 b1 hq hg hr1 hm; exact absurd hm (Nat.not_lt_zero _)
              | succ nn ih104 =>
                intro q fw z9 b1 hq hg hr1 hm104 H locs hP hD hS ls hl
                refine lv_iload zx zb dX12_offer_104 (lv_at hl 9 rfl) ?_
                refine lv_if_eq (tgt := 175) zx zb dX12_offer_106 (by decide) (fun c_106 => ?_) (fun c_106 => ?_)
                · have c_106 : z9 = false := bI_0.mp c_106
                  refine lv_iload zx zb dX12_offer_175 (lv_at hl 4 rfl) ?_
                  refine lv_if_ne (tgt := 185) zx zb dX12_offer_177 (by decide) (fun c_177 => ?_) (fun c_177 => ?_)
                  · have c_177 : ¬ (w = (0 : Int32)) := c_177
                    refine lv_iload zx zb dX12_offer_185 (lv_at hl 8 rfl) ?_
                    exact fin _ _ fw (b1, u_72, f) 187 _ dX12_offer_187 (fun h => by cases h) (⟨(of_end (M := M) (f := f) (ofo_y c_5 c_16 c_28 c_39) h6 hn (by omega) w_77.1 hg c_106 (by first | exact Or.inl ⟨c_177, rfl⟩ | exact Or.inr ⟨c_177, rfl⟩)).1, hr1, by unfold offF; rw [if_pos (ofo_y c_5 c_16 c_28 c_39), if_pos h6]⟩) hP hD hS
                  · have c_177 : w = (0 : Int32) := c_177
                    refine lv_iload zx zb dX12_offer_180 (lv_at hl 7 rfl) ?_
                    refine lv_goto (tgt := 187) zx zb dX12_offer_182 (by decide) ?_
                    exact fin _ _ (nI q) (b1, u_72, f) 187 _ dX12_offer_187 (fun h => by cases h) (⟨(of_end (M := M) (f := f) (ofo_y c_5 c_16 c_28 c_39) h6 hn (by omega) w_77.1 hg c_106 (by first | exact Or.inl ⟨c_177, rfl⟩ | exact Or.inr ⟨c_177, rfl⟩)).1, hr1, by unfold offF; rw [if_pos (ofo_y c_5 c_16 c_28 c_39), if_pos h6]⟩) hP hD hS
                · have c_106 : z9 = true := bI_ne c_106
                  have hq1 := offG_pos hg c_106 h00
                  refine lv_iinc (v := nI (q - 1)) (lv' := [(7, .int (nI (q - 1))), (0, .ref (m 0)), (1, .int a), (2, .int c), (3, .int (nI j)), (4, .int w), (5, .int r_77), (6, .int (nI (C.2.2.2.2.2.2.1))), (8, .int fw), (9, .int (bI z9))]) zx zb dX12_offer_109 hl (k := 7) rfl (dec1 (hq1)) (by decide) rfl (fun ls hl => ?_)
                  refine lv_aload_n zx zb dX12_offer_112 rfl (lv_at hl 1 rfl) ?_
                  refine lv_iconst (v := nI 0) zx zb dX12_offer_113 (by decide) ?_
                  refine lv_iload_n zx zb dX12_offer_114 rfl (lv_at hl 2 rfl) ?_
                  refine lv_iload_n zx zb dX12_offer_115 rfl (lv_at hl 3 rfl) ?_
                  refine lv_aload_n zx zb dX12_offer_116 rfl (lv_at hl 1 rfl) ?_
                  refine g_get (v := .ref (m 1)) XX hP 0 0 rfl rfl rfl iwX12 0 (by decide) fl_X12_7 rfl dX12_offer_117 ?_
                  refine lv_iconst (v := nI 1) zx zb dX12_offer_120 (by decide) ?_
                  refine g_ialdN (i := 1) XX hP 1 0 rfl rfl (by omega) (by decide) dX12_offer_121 ?_
                  refine g_top (y := Y.1) (Rel.y hr1) ?_
                  refine lv_aload_n zx zb dX12_offer_122 rfl (lv_at hl 1 rfl) ?_
                  refine g_get (v := .ref (m 1)) XX hP 0 0 rfl rfl rfl iwX12 0 (by decide) fl_X12_7 rfl dX12_offer_123 ?_
                  refine lv_iconst (v := nI 1) zx zb dX12_offer_126 (by decide) ?_
                  refine g_ialdN (i := 1) XX hP 1 0 rfl rfl (by omega) (by decide) dX12_offer_127 ?_
                  refine g_top (y := Y.1) (Rel.y hr1) ?_
                  refine lv_iload_n zx zb dX12_offer_128 rfl (lv_at hl 4 rfl) ?_
                  refine lv_iadd zx zb dX12_offer_129 ?_
                  refine lv_iload zx zb dX12_offer_130 (lv_at hl 0 rfl) ?_
                  refine call_Vv (As := [.int (nI 0), .int a, .int c, .int Y.1, .int (Y.1 + (nI j)), .int (nI (q - 1))]) (rest := []) XX cv_X12_92 (c_X12_adds Γ l m M b1 C tr Y pc P 0 a c Y.1 (Y.1 + (nI j)) (nI (q - 1)) (hr1) (h6)) hP hD hS hA [0, 1] (by decide) rfl (fun _ => rfl) 0 0 rfl rfl rfl rfl hl.1 rfl ⟨⟨by decide, by decide⟩, by decide, by decide⟩ (Nat.le_of_ble_eq_true rfl) dX12_offer_132 (fun u H locs hw hP hD hS => ?_)
                  have hw := hw.symm
                  subst hw
                  have hP : bP Γ [bMo Γ m M, bA Γ (m 1) 259 (addB b1 C.2.2.2.2.2.2.1 0 a c Y.1 (Y.1 + (nI j)) (nI (q - 1))), bA Γ (m 5) 259 u_72, bA Γ (m 6) 3 f] H := hP
                  have hD : bD AA [bMo Γ m M, bA Γ (m 1) 259 (addB b1 C.2.2.2.2.2.2.1 0 a c Y.1 (Y.1 + (nI j)) (nI (q - 1))), bA Γ (m 5) 259 u_72, bA Γ (m 6) 3 f] := hD
                  have hR8 := off_rel (a := a) (c := c) (m := j) (q := q - 1) hr1 htc hdc hV h6
                  refine lv_iload zx zb dX12_offer_135 (lv_at hl 6 rfl) ?_
                  refine lv_aload_n zx zb dX12_offer_137 rfl (lv_at hl 1 rfl) ?_
                  refine lv_iload_n zx zb dX12_offer_138 rfl (lv_at hl 4 rfl) ?_
                  refine call_Vi (As := [.int (nI j)]) (rest := [.int r_77]) XX cv_X12_251 (c0_X12_floodsIn Γ l m M (addB b1 C.2.2.2.2.2.2.1 0 a c Y.1 (Y.1 + (nI j)) (nI (q - 1))) (offE C) (offU C tr Y a c j (q - 1)) Y pc P j y (hR8) (off_inv hI h6 hy hyb (by omega) eja ejc hja hjc) (by omega) (by omega)) hP hD hS hA [0, 1] (by decide) rfl (fun _ => rfl) 0 0 rfl rfl rfl rfl hl.1 rfl ⟨⟨by decide, by decide⟩, by decide, by decide⟩ (Nat.le_of_ble_eq_true rfl) dX12_offer_139 (fun r_139 u H locs hw hP hD hS => ?_)
                  obtain ⟨u_139, rfl⟩ : ∃ z, z = u := ⟨_, rfl⟩
                  have w_139 := hw
                  have hP : bP Γ [bMo Γ m M, bA Γ (m 1) 259 u_139, bA Γ (m 5) 259 u_72, bA Γ (m 6) 3 f] H := hP
                  have hD : bD AA [bMo Γ m M, bA Γ (m 1) 259 u_139, bA Γ (m 5) 259 u_72, bA Γ (m 6) 3 f] := hD
                  refine lv_isub zx zb dX12_offer_142 ?_
                  refine lv_istore (lv' := [(8, .int (r_77 - r_139)), (7, .int (nI (q - 1))), (0, .ref (m 0)), (1, .int a), (2, .int c), (3, .int (nI j)), (4, .int w), (5, .int r_77), (6, .int (nI (C.2.2.2.2.2.2.1))), (9, .int (bI z9))]) zx zb dX12_offer_143 hl (by decide) rfl (fun ls hl => ?_)
                  refine lv_aload_n zx zb dX12_offer_145 rfl (lv_at hl 2 rfl) ?_
                  refine g_get (v := .ref (m 1)) XX hP 0 0 rfl rfl rfl iwX12 0 (by decide) fl_X12_7 rfl dX12_offer_146 ?_
                  refine lv_iload zx zb dX12_offer_149 (lv_at hl 8 rfl) ?_
                  refine lv_bipush (v := nI 6) zx zb dX12_offer_151 (by decide) ?_
                  refine callR_Si (As := [.int (nI (C.2.2.2.2.2.2.1)), .int (nI 6)]) (rest := [.ref (m 1)]) XX cs_X12_96 (c_X12_of0 Γ l C.2.2.2.2.2.2.1 6 ) hP hD hS hA nil_mem nil_D rfl hl.1 rfl ⟨⟨by decide, by decide⟩, by decide, by decide⟩ (Nat.le_of_ble_eq_true rfl) dX12_offer_153 (fun r_153 H locs hw hP hS => ?_)
                  have hw := hw.symm
                  subst hw
                  refine g_ialdN (i := 55 + 7 * C.2.2.2.2.2.2.1 + 6) XX hP 1 0 rfl rfl (by omega) (by decide) dX12_offer_156 ?_
                  refine g_top (y := bI (yrBr (runM (offE C) (offU C tr Y a c j (q - 1)) Y j) C.2.2.2.2.2.2.1)) (Rel0.t6 w_139.2 (Nat.lt_succ_self C.2.2.2.2.2.2.1)) ?_
                  refine lv_iconst (v := nI 1) zx zb dX12_offer_157 (by decide) ?_
                  refine lv_icmp_ne (tgt := 165) zx zb dX12_offer_158 (by decide) (fun c_158 => ?_) (fun c_158 => ?_)
                  · have c_158 : ¬ ((bI (yrBr (runM (offE C) (offU C tr Y a c j (q - 1)) Y j) C.2.2.2.2.2.2.1)) = (1 : Int32)) := c_158
                    refine lv_iconst (v := nI 0) zx zb dX12_offer_165 (by decide) ?_
                    refine lv_istore (lv' := [(9, .int (nI 0)), (8, .int (r_77 - r_139)), (7, .int (nI (q - 1))), (0, .ref (m 0)), (1, .int a), (2, .int c), (3, .int (nI j)), (4, .int w), (5, .int r_77), (6, .int (nI (C.2.2.2.2.2.2.1)))]) zx zb dX12_offer_166 hl (by decide) rfl (fun ls hl => ?_)
                    refine lv_aload_n zx zb dX12_offer_168 rfl (lv_at hl 3 rfl) ?_
                    refine call_Vv (As := []) (rest := []) XX cv_X12_240 (c_X12_laysBack Γ l m M u_139 u_72 ) hP hD hS hA [0, 1, 2] (by decide) rfl (fun _ => rfl) 0 0 rfl rfl rfl rfl hl.1 rfl ⟨⟨by decide, by decide⟩, by decide, by decide⟩ (Nat.le_of_ble_eq_true rfl) dX12_offer_169 (fun u H locs hw hP hD hS => ?_)
                    obtain ⟨u_169, rfl⟩ : ∃ z, z = u := ⟨_, rfl⟩
                    have w_169 := hw
                    have hP : bP Γ [bMo Γ m M, bA Γ (m 1) 259 u_169, bA Γ (m 5) 259 u_72, bA Γ (m 6) 3 f] H := hP
                    have hD : bD AA [bMo Γ m M, bA Γ (m 1) 259 u_169, bA Γ (m 5) 259 u_72, bA Γ (m 6) 3 f] := hD
                    refine lv_goto (tgt := 104) zx zb dX12_offer_172 (by decide) ?_
                    exact ih104 (q - 1) (r_77 - r_139) false u_169 (by omega) (by first | exact offG_t hg c_106 hq1 hV h6 (bI_1.mp c_158) | (rw [w_139.1]; exact offG_f hg c_106 hq1 hq hV h6 (bI_n1 c_158))) (Rel_cpy (fun k hk => (w_169 k hk).trans (w_72 k hk)) hr htc hdc hpc) (by omega) _ _ hP hD hS _ (lv_sub hl [3, 4, 5, 6, 7, 8, 9, 2, 1, 0] rfl)
                  · have c_158 : (bI (yrBr (runM (offE C) (offU C tr Y a c j (q - 1)) Y j) C.2.2.2.2.2.2.1)) = (1 : Int32) := c_158
                    refine lv_iconst (v := nI 1) zx zb dX12_offer_161 (by decide) ?_
                    refine lv_goto (tgt := 166) zx zb dX12_offer_162 (by decide) ?_
                    refine lv_istore (lv' := [(9, .int (nI 1)), (8, .int (r_77 - r_139)), (7, .int (nI (q - 1))), (0, .ref (m 0)), (1, .int a), (2, .int c), (3, .int (nI j)), (4, .int w), (5, .int r_77), (6, .int (nI (C.2.2.2.2.2.2.1)))]) zx zb dX12_offer_166 hl (by decide) rfl (fun ls hl => ?_)
                    refine lv_aload_n zx zb dX12_offer_168 rfl (lv_at hl 3 rfl) ?_
                    refine call_Vv (As := []) (rest := []) XX cv_X12_240 (c_X12_laysBack Γ l m M u_139 u_72 ) hP hD hS hA [0, 1, 2] (by decide) rfl (fun _ => rfl) 0 0 rfl rfl rfl rfl hl.1 rfl ⟨⟨by decide, by decide⟩, by decide, by decide⟩ (Nat.le_of_ble_eq_true rfl) dX12_offer_169 (fun u H locs hw hP hD hS => ?_)
                    obtain ⟨u_169, rfl⟩ : ∃ z, z = u := ⟨_, rfl⟩
                    have w_169 := hw
                    have hP : bP Γ [bMo Γ m M, bA Γ (m 1) 259 u_169, bA Γ (m 5) 259 u_72, bA Γ (m 6) 3 f] H := hP
                    have hD : bD AA [bMo Γ m M, bA Γ (m 1) 259 u_169, bA Γ (m 5) 259 u_72, bA Γ (m 6) 3 f] := hD
                    refine lv_goto (tgt := 104) zx zb dX12_offer_172 (by decide) ?_
                    exact ih104 (q - 1) (r_77 - r_139) true u_169 (by omega) (by first | exact offG_t hg c_106 hq1 hV h6 (bI_1.mp c_158) | (rw [w_139.1]; exact offG_f hg c_106 hq1 hq hV h6 (bI_n1 c_158))) (Rel_cpy (fun k hk => (w_169 k hk).trans (w_72 k hk)) hr htc hdc hpc) (by omega) _ _ hP hD hS _ (lv_sub hl [3, 4, 5, 6, 7, 8, 9, 2, 1, 0] rfl)
            exact L104 _ 21 0 true u_83 (by omega) (⟨fun i h1 h2 => by rw [if_pos rfl] at h1; omega, fun h => absurd h (by decide)⟩) (hr7) (Nat.lt_succ_self _) _ _ hP hD hS _ (lv_sub hl [5, 6, 7, 8, 9, 4, 3, 2, 1, 0] rfl)
          · have c_59 : C.2.2.2.2.2.2.1 = 6 := (nI_eq (a := C.2.2.2.2.2.2.1) (b := 6) (by omega) (by omega)).mp c_59
            refine lv_aload_n zx zb dX12_offer_62 rfl (lv_at hl 0 rfl) ?_
            refine lv_iconst (v := nI 1) zx zb dX12_offer_63 (by decide) ?_
            refine lv_sipush (v := (-2000)) zx zb dX12_offer_64 (by decide) ?_
            refine call_Vi (As := [.int (nI 1), .int (-2000)]) (rest := []) XX cv_X12_49 (c_X12_refuses Γ l m M f 1 (-2000) (by decide)) hP hD hS hA [0, 3] (by decide) rfl (fun _ => rfl) 0 0 rfl rfl rfl rfl hl.1 rfl ⟨⟨by decide, by decide⟩, by decide, by decide⟩ (Nat.le_of_ble_eq_true rfl) dX12_offer_67 (fun r_67 u H locs hw hP hD hS => ?_)
            obtain ⟨hw1, hw2⟩ := hw
            have hw1 := hw1.symm
            have hw2 := hw2.symm
            subst hw1
            subst hw2
            have hP : bP Γ [bMo Γ m M, bA Γ (m 1) 259 b, bA Γ (m 5) 259 hh, bA Γ (m 6) 3 (moRef M f 1)] H := hP
            have hD : bD AA [bMo Γ m M, bA Γ (m 1) 259 b, bA Γ (m 5) 259 hh, bA Γ (m 6) 3 (moRef M f 1)] := hD
            exact fin _ _ (-2000) (b, hh, (moRef M f 1)) 70 _ dX12_offer_70 (fun h => by cases h) (⟨(of_no (M := M) (f := f) (ofo_y c_5 c_16 c_28 c_39) (by omega)).1, hr, (of_no (tr := tr) (Y := Y) (ofo_y c_5 c_16 c_28 c_39) (by omega)).2⟩) hP hD hS
        · have c_39 : (wi w 0 1) = false := bI_0.mp c_39
          refine lv_aload_n zx zb dX12_offer_42 rfl (lv_at hl 0 rfl) ?_
          refine lv_iconst (v := nI 0) zx zb dX12_offer_43 (by decide) ?_
          refine lv_sipush (v := (-1000)) zx zb dX12_offer_44 (by decide) ?_
          refine call_Vi (As := [.int (nI 0), .int (-1000)]) (rest := []) XX cv_X12_49 (c_X12_refuses Γ l m M f 0 (-1000) (by decide)) hP hD hS hA [0, 3] (by decide) rfl (fun _ => rfl) 0 0 rfl rfl rfl rfl hl.1 rfl ⟨⟨by decide, by decide⟩, by decide, by decide⟩ (Nat.le_of_ble_eq_true rfl) dX12_offer_47 (fun r_47 u H locs hw hP hD hS => ?_)
          obtain ⟨hw1, hw2⟩ := hw
          have hw1 := hw1.symm
          have hw2 := hw2.symm
          subst hw1
          subst hw2
          have hP : bP Γ [bMo Γ m M, bA Γ (m 1) 259 b, bA Γ (m 5) 259 hh, bA Γ (m 6) 3 (moRef M f 0)] H := hP
          have hD : bD AA [bMo Γ m M, bA Γ (m 1) 259 b, bA Γ (m 5) 259 hh, bA Γ (m 6) 3 (moRef M f 0)] := hD
          exact fin _ _ (-1000) (b, hh, (moRef M f 0)) 50 _ dX12_offer_50 (fun h => by cases h) (by first | exact ⟨(of_bad (M := M) (f := f) (ofo_1 c_5)).1, hr, (of_bad (tr := tr) (Y := Y) (ofo_1 c_5)).2⟩ | exact ⟨(of_bad (M := M) (f := f) (ofo_2 c_16)).1, hr, (of_bad (tr := tr) (Y := Y) (ofo_2 c_16)).2⟩ | exact ⟨(of_bad (M := M) (f := f) (ofo_3 c_28)).1, hr, (of_bad (tr := tr) (Y := Y) (ofo_3 c_28)).2⟩ | exact ⟨(of_bad (M := M) (f := f) (ofo_4 c_39)).1, hr, (of_bad (tr := tr) (Y := Y) (ofo_4 c_39)).2⟩) hP hD hS
