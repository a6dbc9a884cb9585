theorem cv_X12_190 : CWV RX12 190 RX12 yX12_isOf cX12_isOf 3 (some (.boolean)) 2 := ⟨cd_X12_isOf, im_X12_isOf, se_X12_X12_isOf_X12_isOf, in_X12, ml_X12_190, by decide +kernel⟩
theorem cv_X12_193 : CWV RX12 193 RX12 yX12_holds cX12_holds 4 (some (.int)) 2 := ⟨cd_X12_holds, im_X12_holds, se_X12_X12_holds_X12_holds, in_X12, ml_X12_193, by decide +kernel⟩
set_option maxHeartbeats 4000000 in
set_option maxRecDepth 100000 in
theorem c_X12_guardedBy (Γ : GG) (l : Launch) (m : Nat → Nat) (M : MoV) (b : Nat → Int32) (C : CoV) (tr : Nat → TrV) (Y : YrV) (pc : Nat) (P : Nat → YrV) (z : Int32) (q : Int32) (hr : Rel b C tr Y pc P) (hI : Inv C tr Y) (hzy : z = Y.1) : Ci Γ l yX12_guardedBy cX12_guardedBy 7 (some (.int)) 2 47 0 0 [.ref (m 0), .int z, .int q] [bMo Γ m M, bA Γ (m 1) 259 b] (fun (r : Int32) (u : Unit) => r = coGuards C tr Y q C.2.2.2.2.2.2.1) (fun (u : Unit) => [bMo Γ m M, bA Γ (m 1) 259 b]) := by
  refine Ci.of (Or.inl rfl) (by decide) (Nat.le_of_ble_eq_true rfl) ?_
  intro pp ee ss mm bb me cd AA QQ XX hnm hA hP hD fin ls hl
  obtain ⟨zx, zb, hml, hown, hts, hK⟩ := id XX
  have hS : va_S AA ss.heap ss.heap [] := va_S.rf
  have hl : lv_has ls 7 [(0, .ref (m 0)), (1, .int z), (2, .int q)] := hl
  have htc := inv_tc hI
  have hdc := inv_dc hI
  have hn := inv_n hI
  subst hzy
  refine lv_iconst (v := nI 0) zx zb dX12_guardedBy_0 (by decide) ?_
  refine lv_istore_n (lv' := [(3, .int (nI 0)), (0, .ref (m 0)), (1, .int Y.1), (2, .int q)]) zx zb dX12_guardedBy_1 rfl hl (by decide) rfl (fun ls hl => ?_)
  refine lv_iconst (v := nI 0) zx zb dX12_guardedBy_2 (by decide) ?_
  refine lv_istore (lv' := [(4, .int (nI 0)), (3, .int (nI 0)), (0, .ref (m 0)), (1, .int Y.1), (2, .int q)]) zx zb dX12_guardedBy_3 hl (by decide) rfl (fun ls hl => ?_)
  have L5 : ∀ (nn : Nat) (t : Nat) (a : Int32), (t ≤ C.2.2.2.2.2.2.1) → (a = coGuards C tr Y q t) → C.2.2.2.2.2.2.1 - t < nn → ∀ (H : Heap) (locs : List Loc), bP Γ [bMo Γ m M, bA Γ (m 1) 259 b] H → bD AA [bMo Γ m M, bA Γ (m 1) 259 b] → va_S AA ss.heap H locs → ∀ (ls : Array Slot), lv_has ls 7 [(0, .ref (m 0)), (1, .int Y.1), (2, .int q), (3, .int a), (4, .int (nI t))] → W pp l ee { frames := 2, cells := 0, slots := 0, locals := 47 } ss mm [.ref (m 0), .int Y.1, .int q].toArray bb me cd H locs 0 0 QQ (F0 mm 5 ls []) := by
    intro nn
    induction nn with
    | zero => intro t a hti ha hm; exact absurd hm (Nat.not_lt_zero _)
    | succ nn ih5 =>
      intro t a hti ha hm5 H locs hP hD hS ls hl
      refine lv_iload zx zb dX12_guardedBy_5 (lv_at hl 4 rfl) ?_
      refine lv_aload_n zx zb dX12_guardedBy_7 rfl (lv_at hl 0 rfl) ?_
      refine g_get (v := .ref (m 1)) XX hP 0 0 rfl rfl rfl iwX12 0 (by decide) fl_X12_7 rfl dX12_guardedBy_8 ?_
      refine lv_iconst (v := nI 4) zx zb dX12_guardedBy_11 (by decide) ?_
      refine g_ialdN (i := 4) XX hP 1 0 rfl rfl (by omega) (by decide) dX12_guardedBy_12 ?_
      refine g_top (y := nI (C.2.2.2.2.2.2.1)) (Rel.tc hr) ?_
      refine lv_icmp_ge (tgt := 101) zx zb dX12_guardedBy_13 (by decide) (fun c_13 => ?_) (fun c_13 => ?_)
      · have c_13 : C.2.2.2.2.2.2.1 ≤ t := (nI_leI (a := C.2.2.2.2.2.2.1) (b := t) (by omega) (by omega)).mp c_13
        refine lv_iload_n zx zb dX12_guardedBy_101 rfl (lv_at hl 3 rfl) ?_
        exact fin _ _ a () 102 _ dX12_guardedBy_102 (fun h => by cases h) (by have e : t = C.2.2.2.2.2.2.1 := (by omega); subst e; exact ha) hP hD hS
      · have c_13 : ¬ (C.2.2.2.2.2.2.1 ≤ t) := fun h => c_13 ((nI_leI (a := C.2.2.2.2.2.2.1) (b := t) (by omega) (by omega)).mpr h)
        refine lv_aload_n zx zb dX12_guardedBy_16 rfl (lv_at hl 0 rfl) ?_
        refine lv_iload zx zb dX12_guardedBy_17 (lv_at hl 4 rfl) ?_
        refine lv_iload_n zx zb dX12_guardedBy_19 rfl (lv_at hl 1 rfl) ?_
        refine call_Vi (As := [.int (nI t), .int Y.1]) (rest := []) XX cv_X12_190 (c_X12_isOf Γ l m M b C tr Y pc P t Y.1 (hr) (hI) (by omega)) hP hD hS hA [0, 1] (by decide) rfl (fun _ => rfl) 0 0 rfl rfl rfl rfl hl.1 rfl ⟨⟨by decide, by decide⟩, by decide, by decide⟩ (Nat.le_of_ble_eq_true rfl) dX12_guardedBy_20 (fun r_20 u H locs hw hP hD hS => ?_)
        have hw := hw.symm
        subst hw
        have hP : bP Γ [bMo Γ m M, bA Γ (m 1) 259 b] H := hP
        have hD : bD AA [bMo Γ m M, bA Γ (m 1) 259 b] := hD
        refine lv_if_eq (tgt := 41) zx zb dX12_guardedBy_23 (by decide) (fun c_23 => ?_) (fun c_23 => ?_)
        · have c_23 : (!yrBr Y t && trRuns (tr t) Y.1) = false := bI_0.mp c_23
          refine lv_iconst (v := nI 0) zx zb dX12_guardedBy_41 (by decide) ?_
          refine lv_istore (lv' := [(5, .int (nI 0)), (0, .ref (m 0)), (1, .int Y.1), (2, .int q), (3, .int a), (4, .int (nI t))]) zx zb dX12_guardedBy_42 hl (by decide) rfl (fun ls hl => ?_)
          obtain ⟨a0, b0, f0, u0, ea, eb, hab, hbn, ef, eu, hf0, hu0⟩ := inv_tr hI (show t < C.2.2.2.2.2.2.1 by omega)
          refine lv_aload_n zx zb dX12_guardedBy_44 rfl (lv_at hl 1 rfl) ?_
          refine g_get (v := .ref (m 1)) XX hP 0 0 rfl rfl rfl iwX12 0 (by decide) fl_X12_7 rfl dX12_guardedBy_45 ?_
          refine lv_iload zx zb dX12_guardedBy_48 (lv_at hl 5 rfl) ?_
          refine lv_iconst (v := nI 1) zx zb dX12_guardedBy_50 (by decide) ?_
          refine callR_Si (As := [.int (nI t), .int (nI 1)]) (rest := [.ref (m 1)]) XX cs_X12_96 (c_X12_of0 Γ l t 1 ) hP hD hS hA nil_mem nil_D rfl hl.1 rfl ⟨⟨by decide, by decide⟩, by decide, by decide⟩ (Nat.le_of_ble_eq_true rfl) dX12_guardedBy_51 (fun r_51 H locs hw hP hS => ?_)
          have hw := hw.symm
          subst hw
          refine g_ialdN (i := 55 + 7 * t + 1) XX hP 1 0 rfl rfl (by omega) (by decide) dX12_guardedBy_54 ?_
          refine g_top (y := (tr t).2.2.1) (Rel.t1 hr (by omega)) ?_
          refine g_top (y := nI a0) (ea) ?_
          refine lv_istore (lv' := [(6, .int (nI a0)), (5, .int (nI 0)), (0, .ref (m 0)), (1, .int Y.1), (2, .int q), (3, .int a), (4, .int (nI t))]) zx zb dX12_guardedBy_55 hl (by decide) rfl (fun ls hl => ?_)
          have L57 : ∀ (nn : Nat) (x1 : Nat) (s1 : Int32), (a0 ≤ x1 ∧ x1 ≤ b0 + 1) → (s1 = a) → b0 + 1 - x1 < nn → ∀ (H : Heap) (locs : List Loc), bP Γ [bMo Γ m M, bA Γ (m 1) 259 b] H → bD AA [bMo Γ m M, bA Γ (m 1) 259 b] → va_S AA ss.heap H locs → ∀ (ls : Array Slot), lv_has ls 7 [(0, .ref (m 0)), (1, .int Y.1), (2, .int q), (3, .int s1), (4, .int (nI t)), (5, .int (nI 0)), (6, .int (nI x1))] → W pp l ee { frames := 2, cells := 0, slots := 0, locals := 47 } ss mm [.ref (m 0), .int Y.1, .int q].toArray bb me cd H locs 0 0 QQ (F0 mm 57 ls []) := by
            intro nn
            induction nn with
            | zero => intro x1 s1 hx hs hm; exact absurd hm (Nat.not_lt_zero _)
            | succ nn ih57 =>
              intro x1 s1 hx hs hm57 H locs hP hD hS ls hl
              refine lv_iload zx zb dX12_guardedBy_57 (lv_at hl 6 rfl) ?_
              refine lv_aload_n zx zb dX12_guardedBy_59 rfl (lv_at hl 0 rfl) ?_
              refine g_get (v := .ref (m 1)) XX hP 0 0 rfl rfl rfl iwX12 0 (by decide) fl_X12_7 rfl dX12_guardedBy_60 ?_
              refine lv_iload zx zb dX12_guardedBy_63 (lv_at hl 4 rfl) ?_
              refine lv_iconst (v := nI 2) zx zb dX12_guardedBy_65 (by decide) ?_
              refine callR_Si (As := [.int (nI t), .int (nI 2)]) (rest := [.ref (m 1), .int (nI x1)]) XX cs_X12_96 (c_X12_of0 Γ l t 2 ) hP hD hS hA nil_mem nil_D rfl hl.1 rfl ⟨⟨by decide, by decide⟩, by decide, by decide⟩ (Nat.le_of_ble_eq_true rfl) dX12_guardedBy_66 (fun r_66 H locs hw hP hS => ?_)
              have hw := hw.symm
              subst hw
              refine g_ialdN (i := 55 + 7 * t + 2) XX hP 1 0 rfl rfl (by omega) (by decide) dX12_guardedBy_69 ?_
              refine g_top (y := (tr t).2.2.2.1) (Rel.t2 hr (by omega)) ?_
              refine g_top (y := nI b0) (eb) ?_
              refine lv_icmp_gt (tgt := 95) zx zb dX12_guardedBy_70 (by decide) (fun c_70 => ?_) (fun c_70 => ?_)
              · have c_70 : b0 < x1 := (nI_ltI (a := b0) (b := x1) (by omega) (by omega)).mp c_70
                refine lv_iinc (v := nI (t + 1)) (lv' := [(4, .int (nI (t + 1))), (0, .ref (m 0)), (1, .int Y.1), (2, .int q), (3, .int s1), (5, .int (nI 0)), (6, .int (nI x1))]) zx zb dX12_guardedBy_95 hl (k := 4) rfl (nI_inc _ 1) (by decide) rfl (fun ls hl => ?_)
                refine lv_goto (tgt := 5) zx zb dX12_guardedBy_98 (by decide) ?_
                exact ih5 (t + 1) s1 (by omega) (by first | (rw [hs]; exact gu_no ha c_23) | (rw [hs]; exact gu_n2 ha c_34) | (have e : x1 = b0 + 1 := (by omega); subst e; rw [hs]; exact gu_ys ha c_23 c_34 ea eb hab (by omega))) (by omega) _ _ hP hD hS _ (lv_sub hl [1, 2, 3, 4, 0] rfl)
              · have c_70 : ¬ (b0 < x1) := fun h => c_70 ((nI_ltI (a := b0) (b := x1) (by omega) (by omega)).mpr h)
                refine lv_iload_n zx zb dX12_guardedBy_73 rfl (lv_at hl 3 rfl) ?_
                refine lv_iload zx zb dX12_guardedBy_74 (lv_at hl 5 rfl) ?_
                refine lv_if_eq (tgt := 86) zx zb dX12_guardedBy_76 (by decide) (fun c_76 => ?_) (fun c_76 => ?_)
                · clear c_76
                  refine lv_iconst (v := nI 0) zx zb dX12_guardedBy_86 (by decide) ?_
                  refine lv_ior zx zb dX12_guardedBy_87 ?_
                  refine g_top (y := s1 ||| 0) rfl ?_
                  refine lv_istore_n (lv' := [(3, .int (s1 ||| 0)), (0, .ref (m 0)), (1, .int Y.1), (2, .int q), (4, .int (nI t)), (5, .int (nI 0)), (6, .int (nI x1))]) zx zb dX12_guardedBy_88 rfl hl (by decide) rfl (fun ls hl => ?_)
                  refine lv_iinc (v := nI (x1 + 1)) (lv' := [(6, .int (nI (x1 + 1))), (3, .int (s1 ||| 0)), (0, .ref (m 0)), (1, .int Y.1), (2, .int q), (4, .int (nI t)), (5, .int (nI 0))]) zx zb dX12_guardedBy_89 hl (k := 6) rfl (nI_inc _ 1) (by decide) rfl (fun ls hl => ?_)
                  refine lv_goto (tgt := 57) zx zb dX12_guardedBy_92 (by decide) ?_
                  exact ih57 (x1 + 1) (s1 ||| 0) (by omega) (by rw [hs]; first | exact or_range hx.1 | exact or_zero _) (by omega) _ _ hP hD hS _ (lv_sub hl [2, 3, 4, 1, 5, 6, 0] rfl)
                · exact absurd c_76 (by decide)
          exact L57 _ a0 a (by omega) (by first | rfl | (rw [Nat.sub_self]; exact (or_zero _).symm)) (Nat.lt_succ_self _) _ _ hP hD hS _ (lv_sub hl [2, 3, 4, 5, 6, 1, 0] rfl)
        · have c_23 : (!yrBr Y t && trRuns (tr t) Y.1) = true := bI_ne c_23
          refine lv_iload_n zx zb dX12_guardedBy_26 rfl (lv_at hl 2 rfl) ?_
          refine lv_aload_n zx zb dX12_guardedBy_27 rfl (lv_at hl 0 rfl) ?_
          refine lv_iload zx zb dX12_guardedBy_28 (lv_at hl 4 rfl) ?_
          refine lv_iload_n zx zb dX12_guardedBy_30 rfl (lv_at hl 1 rfl) ?_
          refine call_Vi (As := [.int (nI t), .int Y.1]) (rest := [.int q]) XX cv_X12_193 (c_X12_holds Γ l m M b C tr Y pc P t Y.1 (hr) (hI) (by omega)) hP hD hS hA [0, 1] (by decide) rfl (fun _ => rfl) 0 0 rfl rfl rfl rfl hl.1 rfl ⟨⟨by decide, by decide⟩, by decide, by decide⟩ (Nat.le_of_ble_eq_true rfl) dX12_guardedBy_31 (fun r_31 u H locs hw hP hD hS => ?_)
          have hw := hw.symm
          subst hw
          have hP : bP Γ [bMo Γ m M, bA Γ (m 1) 259 b] H := hP
          have hD : bD AA [bMo Γ m M, bA Γ (m 1) 259 b] := hD
          refine lv_icmp_gt (tgt := 41) zx zb dX12_guardedBy_34 (by decide) (fun c_34 => ?_) (fun c_34 => ?_)
          · have c_34 : (kHolds (tr t).1 (coSpring C Y.1)) < q := c_34
            refine lv_iconst (v := nI 0) zx zb dX12_guardedBy_41 (by decide) ?_
            refine lv_istore (lv' := [(5, .int (nI 0)), (0, .ref (m 0)), (1, .int Y.1), (2, .int q), (3, .int a), (4, .int (nI t))]) zx zb dX12_guardedBy_42 hl (by decide) rfl (fun ls hl => ?_)
            obtain ⟨a0, b0, f0, u0, ea, eb, hab, hbn, ef, eu, hf0, hu0⟩ := inv_tr hI (show t < C.2.2.2.2.2.2.1 by omega)
            refine lv_aload_n zx zb dX12_guardedBy_44 rfl (lv_at hl 1 rfl) ?_
            refine g_get (v := .ref (m 1)) XX hP 0 0 rfl rfl rfl iwX12 0 (by decide) fl_X12_7 rfl dX12_guardedBy_45 ?_
            refine lv_iload zx zb dX12_guardedBy_48 (lv_at hl 5 rfl) ?_
            refine lv_iconst (v := nI 1) zx zb dX12_guardedBy_50 (by decide) ?_
            refine callR_Si (As := [.int (nI t), .int (nI 1)]) (rest := [.ref (m 1)]) XX cs_X12_96 (c_X12_of0 Γ l t 1 ) hP hD hS hA nil_mem nil_D rfl hl.1 rfl ⟨⟨by decide, by decide⟩, by decide, by decide⟩ (Nat.le_of_ble_eq_true rfl) dX12_guardedBy_51 (fun r_51 H locs hw hP hS => ?_)
            have hw := hw.symm
            subst hw
            refine g_ialdN (i := 55 + 7 * t + 1) XX hP 1 0 rfl rfl (by omega) (by decide) dX12_guardedBy_54 ?_
            refine g_top (y := (tr t).2.2.1) (Rel.t1 hr (by omega)) ?_
            refine g_top (y := nI a0) (ea) ?_
            refine lv_istore (lv' := [(6, .int (nI a0)), (5, .int (nI 0)), (0, .ref (m 0)), (1, .int Y.1), (2, .int q), (3, .int a), (4, .int (nI t))]) zx zb dX12_guardedBy_55 hl (by decide) rfl (fun ls hl => ?_)
            have L57 : ∀ (nn : Nat) (x1 : Nat) (s1 : Int32), (a0 ≤ x1 ∧ x1 ≤ b0 + 1) → (s1 = a) → b0 + 1 - x1 < nn → ∀ (H : Heap) (locs : List Loc), bP Γ [bMo Γ m M, bA Γ (m 1) 259 b] H → bD AA [bMo Γ m M, bA Γ (m 1) 259 b] → va_S AA ss.heap H locs → ∀ (ls : Array Slot), lv_has ls 7 [(0, .ref (m 0)), (1, .int Y.1), (2, .int q), (3, .int s1), (4, .int (nI t)), (5, .int (nI 0)), (6, .int (nI x1))] → W pp l ee { frames := 2, cells := 0, slots := 0, locals := 47 } ss mm [.ref (m 0), .int Y.1, .int q].toArray bb me cd H locs 0 0 QQ (F0 mm 57 ls []) := by
              intro nn
              induction nn with
              | zero => intro x1 s1 hx hs hm; exact absurd hm (Nat.not_lt_zero _)
              | succ nn ih57 =>
                intro x1 s1 hx hs hm57 H locs hP hD hS ls hl
                refine lv_iload zx zb dX12_guardedBy_57 (lv_at hl 6 rfl) ?_
                refine lv_aload_n zx zb dX12_guardedBy_59 rfl (lv_at hl 0 rfl) ?_
                refine g_get (v := .ref (m 1)) XX hP 0 0 rfl rfl rfl iwX12 0 (by decide) fl_X12_7 rfl dX12_guardedBy_60 ?_
                refine lv_iload zx zb dX12_guardedBy_63 (lv_at hl 4 rfl) ?_
                refine lv_iconst (v := nI 2) zx zb dX12_guardedBy_65 (by decide) ?_
                refine callR_Si (As := [.int (nI t), .int (nI 2)]) (rest := [.ref (m 1), .int (nI x1)]) XX cs_X12_96 (c_X12_of0 Γ l t 2 ) hP hD hS hA nil_mem nil_D rfl hl.1 rfl ⟨⟨by decide, by decide⟩, by decide, by decide⟩ (Nat.le_of_ble_eq_true rfl) dX12_guardedBy_66 (fun r_66 H locs hw hP hS => ?_)
                have hw := hw.symm
                subst hw
                refine g_ialdN (i := 55 + 7 * t + 2) XX hP 1 0 rfl rfl (by omega) (by decide) dX12_guardedBy_69 ?_
                refine g_top (y := (tr t).2.2.2.1) (Rel.t2 hr (by omega)) ?_
                refine g_top (y := nI b0) (eb) ?_
                refine lv_icmp_gt (tgt := 95) zx zb dX12_guardedBy_70 (by decide) (fun c_70 => ?_) (fun c_70 => ?_)
                · have c_70 : b0 < x1 := (nI_ltI (a := b0) (b := x1) (by omega) (by omega)).mp c_70
                  refine lv_iinc (v := nI (t + 1)) (lv' := [(4, .int (nI (t + 1))), (0, .ref (m 0)), (1, .int Y.1), (2, .int q), (3, .int s1), (5, .int (nI 0)), (6, .int (nI x1))]) zx zb dX12_guardedBy_95 hl (k := 4) rfl (nI_inc _ 1) (by decide) rfl (fun ls hl => ?_)
                  refine lv_goto (tgt := 5) zx zb dX12_guardedBy_98 (by decide) ?_
                  exact ih5 (t + 1) s1 (by omega) (by first | (rw [hs]; exact gu_no ha c_23) | (rw [hs]; exact gu_n2 ha c_34) | (have e : x1 = b0 + 1 := (by omega); subst e; rw [hs]; exact gu_ys ha c_23 c_34 ea eb hab (by omega))) (by omega) _ _ hP hD hS _ (lv_sub hl [1, 2, 3, 4, 0] rfl)
                · have c_70 : ¬ (b0 < x1) := fun h => c_70 ((nI_ltI (a := b0) (b := x1) (by omega) (by omega)).mpr h)
                  refine lv_iload_n zx zb dX12_guardedBy_73 rfl (lv_at hl 3 rfl) ?_
                  refine lv_iload zx zb dX12_guardedBy_74 (lv_at hl 5 rfl) ?_
                  refine lv_if_eq (tgt := 86) zx zb dX12_guardedBy_76 (by decide) (fun c_76 => ?_) (fun c_76 => ?_)
                  · clear c_76
                    refine lv_iconst (v := nI 0) zx zb dX12_guardedBy_86 (by decide) ?_
                    refine lv_ior zx zb dX12_guardedBy_87 ?_
                    refine g_top (y := s1 ||| 0) rfl ?_
                    refine lv_istore_n (lv' := [(3, .int (s1 ||| 0)), (0, .ref (m 0)), (1, .int Y.1), (2, .int q), (4, .int (nI t)), (5, .int (nI 0)), (6, .int (nI x1))]) zx zb dX12_guardedBy_88 rfl hl (by decide) rfl (fun ls hl => ?_)
                    refine lv_iinc (v := nI (x1 + 1)) (lv' := [(6, .int (nI (x1 + 1))), (3, .int (s1 ||| 0)), (0, .ref (m 0)), (1, .int Y.1), (2, .int q), (4, .int (nI t)), (5, .int (nI 0))]) zx zb dX12_guardedBy_89 hl (k := 6) rfl (nI_inc _ 1) (by decide) rfl (fun ls hl => ?_)
                    refine lv_goto (tgt := 57) zx zb dX12_guardedBy_92 (by decide) ?_
                    exact ih57 (x1 + 1) (s1 ||| 0) (by omega) (by rw [hs]; first | exact or_range hx.1 | exact or_zero _) (by omega) _ _ hP hD hS _ (lv_sub hl [2, 3, 4, 1, 5, 6, 0] rfl)
                  · exact absurd c_76 (by decide)
            exact L57 _ a0 a (by omega) (by first | rfl | (rw [Nat.sub_self]; exact (or_zero _).symm)) (Nat.lt_succ_self _) _ _ hP hD hS _ (lv_sub hl [2, 3, 4, 5, 6, 1, 0] rfl)
          · have c_34 : ¬ ((kHolds (tr t).1 (coSpring C Y.1)) < q) := c_34
            refine lv_iconst (v := nI 1) zx zb dX12_guardedBy_37 (by decide) ?_
            refine lv_goto (tgt := 42) zx zb dX12_guardedBy_38 (by decide) ?_
            refine lv_istore (lv' := [(5, .int (nI 1)), (0, .ref (m 0)), (1, .int Y.1), (2, .int q), (3, .int a), (4, .int (nI t))]) zx zb dX12_guardedBy_42 hl (by decide) rfl (fun ls hl => ?_)
            obtain ⟨a0, b0, f0, u0, ea, eb, hab, hbn, ef, eu, hf0, hu0⟩ := inv_tr hI (show t < C.2.2.2.2.2.2.1 by omega)
            refine lv_aload_n zx zb dX12_guardedBy_44 rfl (lv_at hl 1 rfl) ?_
            refine g_get (v := .ref (m 1)) XX hP 0 0 rfl rfl rfl iwX12 0 (by decide) fl_X12_7 rfl dX12_guardedBy_45 ?_
            refine lv_iload zx zb dX12_guardedBy_48 (lv_at hl 5 rfl) ?_
            refine lv_iconst (v := nI 1) zx zb dX12_guardedBy_50 (by decide) ?_
            refine callR_Si (As := [.int (nI t), .int (nI 1)]) (rest := [.ref (m 1)]) XX cs_X12_96 (c_X12_of0 Γ l t 1 ) hP hD hS hA nil_mem nil_D rfl hl.1 rfl ⟨⟨by decide, by decide⟩, by decide, by decide⟩ (Nat.le_of_ble_eq_true rfl) dX12_guardedBy_51 (fun r_51 H locs hw hP hS => ?_)
            have hw := hw.symm
            subst hw
            refine g_ialdN (i := 55 + 7 * t + 1) XX hP 1 0 rfl rfl (by omega) (by decide) dX12_guardedBy_54 ?_
            refine g_top (y := (tr t).2.2.1) (Rel.t1 hr (by omega)) ?_
            refine g_top (y := nI a0) (ea) ?_
            refine lv_istore (lv' := [(6, .int (nI a0)), (5, .int (nI 1)), (0, .ref (m 0)), (1, .int Y.1), (2, .int q), (3, .int a), (4, .int (nI t))]) zx zb dX12_guardedBy_55 hl (by decide) rfl (fun ls hl => ?_)
            have L57 : ∀ (nn : Nat) (x1 : Nat) (s1 : Int32), (a0 ≤ x1 ∧ x1 ≤ b0 + 1) → (s1 = a ||| rangeB a0 (x1 - a0)) → b0 + 1 - x1 < nn → ∀ (H : Heap) (locs : List Loc), bP Γ [bMo Γ m M, bA Γ (m 1) 259 b] H → bD AA [bMo Γ m M, bA Γ (m 1) 259 b] → va_S AA ss.heap H locs → ∀ (ls : Array Slot), lv_has ls 7 [(0, .ref (m 0)), (1, .int Y.1), (2, .int q), (3, .int s1), (4, .int (nI t)), (5, .int (nI 1)), (6, .int (nI x1))] → W pp l ee { frames := 2, cells := 0, slots := 0, locals := 47 } ss mm [.ref (m 0), .int Y.1, .int q].toArray bb me cd H locs 0 0 QQ (F0 mm 57 ls []) := by
              intro nn
              induction nn with
              | zero => intro x1 s1 hx hs hm; exact absurd hm (Nat.not_lt_zero _)
              | succ nn ih57 =>
                intro x1 s1 hx hs hm57 H locs hP hD hS ls hl
                refine lv_iload zx zb dX12_guardedBy_57 (lv_at hl 6 rfl) ?_
                refine lv_aload_n zx zb dX12_guardedBy_59 rfl (lv_at hl 0 rfl) ?_
                refine g_get (v := .ref (m 1)) XX hP 0 0 rfl rfl rfl iwX12 0 (by decide) fl_X12_7 rfl dX12_guardedBy_60 ?_
                refine lv_iload zx zb dX12_guardedBy_63 (lv_at hl 4 rfl) ?_
                refine lv_iconst (v := nI 2) zx zb dX12_guardedBy_65 (by decide) ?_
                refine callR_Si (As := [.int (nI t), .int (nI 2)]) (rest := [.ref (m 1), .int (nI x1)]) XX cs_X12_96 (c_X12_of0 Γ l t 2 ) hP hD hS hA nil_mem nil_D rfl hl.1 rfl ⟨⟨by decide, by decide⟩, by decide, by decide⟩ (Nat.le_of_ble_eq_true rfl) dX12_guardedBy_66 (fun r_66 H locs hw hP hS => ?_)
                have hw := hw.symm
                subst hw
                refine g_ialdN (i := 55 + 7 * t + 2) XX hP 1 0 rfl rfl (by omega) (by decide) dX12_guardedBy_69 ?_
                refine g_top (y := (tr t).2.2.2.1) (Rel.t2 hr (by omega)) ?_
                refine g_top (y := nI b0) (eb) ?_
                refine lv_icmp_gt (tgt := 95) zx zb dX12_guardedBy_70 (by decide) (fun c_70 => ?_) (fun c_70 => ?_)
                · have c_70 : b0 < x1 := (nI_ltI (a := b0) (b := x1) (by omega) (by omega)).mp c_70
                  refine lv_iinc (v := nI (t + 1)) (lv' := [(4, .int (nI (t + 1))), (0, .ref (m 0)), (1, .int Y.1), (2, .int q), (3, .int s1), (5, .int (nI 1)), (6, .int (nI x1))]) zx zb dX12_guardedBy_95 hl (k := 4) rfl (nI_inc _ 1) (by decide) rfl (fun ls hl => ?_)
                  refine lv_goto (tgt := 5) zx zb dX12_guardedBy_98 (by decide) ?_
                  exact ih5 (t + 1) s1 (by omega) (by first | (rw [hs]; exact gu_no ha c_23) | (rw [hs]; exact gu_n2 ha c_34) | (have e : x1 = b0 + 1 := (by omega); subst e; rw [hs]; exact gu_ys ha c_23 c_34 ea eb hab (by omega))) (by omega) _ _ hP hD hS _ (lv_sub hl [1, 2, 3, 4, 0] rfl)
                · have c_70 : ¬ (b0 < x1) := fun h => c_70 ((nI_ltI (a := b0) (b := x1) (by omega) (by omega)).mpr h)
                  refine lv_iload_n zx zb dX12_guardedBy_73 rfl (lv_at hl 3 rfl) ?_
                  refine lv_iload zx zb dX12_guardedBy_74 (lv_at hl 5 rfl) ?_
                  refine lv_if_eq (tgt := 86) zx zb dX12_guardedBy_76 (by decide) (fun c_76 => ?_) (fun c_76 => ?_)
                  · exact absurd c_76 (by decide)
                  · clear c_76
                    refine lv_iconst (v := nI 1) zx zb dX12_guardedBy_79 (by decide) ?_
                    refine lv_iload zx zb dX12_guardedBy_80 (lv_at hl 6 rfl) ?_
                    refine lv_ishl zx zb dX12_guardedBy_82 ?_
                    refine g_top (y := bit x1) (sh31l _ (by omega)) ?_
                    refine lv_goto (tgt := 87) zx zb dX12_guardedBy_83 (by decide) ?_
                    refine lv_ior zx zb dX12_guardedBy_87 ?_
                    refine lv_istore_n (lv' := [(3, .int (s1 ||| (bit x1))), (0, .ref (m 0)), (1, .int Y.1), (2, .int q), (4, .int (nI t)), (5, .int (nI 1)), (6, .int (nI x1))]) zx zb dX12_guardedBy_88 rfl hl (by decide) rfl (fun ls hl => ?_)
                    refine lv_iinc (v := nI (x1 + 1)) (lv' := [(6, .int (nI (x1 + 1))), (3, .int (s1 ||| (bit x1))), (0, .ref (m 0)), (1, .int Y.1), (2, .int q), (4, .int (nI t)), (5, .int (nI 1))]) zx zb dX12_guardedBy_89 hl (k := 6) rfl (nI_inc _ 1) (by decide) rfl (fun ls hl => ?_)
                    refine lv_goto (tgt := 57) zx zb dX12_guardedBy_92 (by decide) ?_
                    exact ih57 (x1 + 1) (s1 ||| (bit x1)) (by omega) (by rw [hs]; first | exact or_range hx.1 | exact or_zero _) (by omega) _ _ hP hD hS _ (lv_sub hl [2, 3, 4, 1, 5, 6, 0] rfl)
            exact L57 _ a0 a (by omega) (by first | rfl | (rw [Nat.sub_self]; exact (or_zero _).symm)) (Nat.lt_succ_self _) _ _ hP hD hS _ (lv_sub hl [2, 3, 4, 5, 6, 1, 0] rfl)
  exact L5 _ 0 0 (by omega) (rfl) (Nat.lt_succ_self _) _ _ hP hD hS _ (lv_sub hl [2, 3, 4, 1, 0] rfl)

set_option maxHeartbeats 4000000 in
set_option maxRecDepth 100000 in
theorem c_X12_floods (Γ : GG) (l : Launch) (m : Nat → Nat) (M : MoV) (b : Nat → Int32) (C : CoV) (tr : Nat → TrV) (Y : YrV) (pc : Nat) (P : Nat → YrV) (q : Int32) (g : Int32) (o : Int32) (e1 : Int32) (hr : Rel b C tr Y pc P) (hI : Inv C tr Y) (hb : ∀ x, x < C.1 → ∀ t, C.2.2.2.2.1 x = nI t → t < 16 → hasB e1 x = hasB o t) : Ci Γ l yX12_floods cX12_floods 7 (some (.int)) 1 21 0 0 [.ref (m 0), .int q, .int g, .int o] [bMo Γ m M, bA Γ (m 1) 259 b] (fun (r : Int32) (u : Unit) => r = coWater C Y.2.2.2.1 q g e1) (fun (u : Unit) => [bMo Γ m M, bA Γ (m 1) 259 b]) := by
  refine Ci.of (Or.inl rfl) (by decide) (Nat.le_of_ble_eq_true rfl) ?_
  intro pp ee ss mm bb me cd AA QQ XX hnm hA hP hD fin ls hl
  obtain ⟨zx, zb, hml, hown, hts, hK⟩ := id XX
  have hS : va_S AA ss.heap ss.heap [] := va_S.rf
  have hl : lv_has ls 7 [(0, .ref (m 0)), (1, .int q), (2, .int g), (3, .int o)] := hl
  have htc := inv_tc hI
  have hdc := inv_dc hI
  have hn := inv_n hI
  refine lv_iconst (v := nI 0) zx zb dX12_floods_0 (by decide) ?_
  refine lv_istore (lv' := [(4, .int (nI 0)), (0, .ref (m 0)), (1, .int q), (2, .int g), (3, .int o)]) zx zb dX12_floods_1 hl (by decide) rfl (fun ls hl => ?_)
  refine lv_iconst (v := nI 0) zx zb dX12_floods_3 (by decide) ?_
  refine lv_istore (lv' := [(5, .int (nI 0)), (4, .int (nI 0)), (0, .ref (m 0)), (1, .int q), (2, .int g), (3, .int o)]) zx zb dX12_floods_4 hl (by decide) rfl (fun ls hl => ?_)
  have L6 : ∀ (nn : Nat) (x1 : Nat) (a : Int32), (x1 ≤ C.1) → (∀ j, j < x1 → coStop C Y.2.2.2.1 q g e1 j = false) → (a = preB x1) → C.1 - x1 < nn → ∀ (H : Heap) (locs : List Loc), bP Γ [bMo Γ m M, bA Γ (m 1) 259 b] H → bD AA [bMo Γ m M, bA Γ (m 1) 259 b] → va_S AA ss.heap H locs → ∀ (ls : Array Slot), lv_has ls 7 [(0, .ref (m 0)), (1, .int q), (2, .int g), (3, .int o), (4, .int a), (5, .int (nI x1))] → W pp l ee { frames := 1, cells := 0, slots := 0, locals := 21 } ss mm [.ref (m 0), .int q, .int g, .int o].toArray bb me cd H locs 0 0 QQ (F0 mm 6 ls []) := by
    intro nn
    induction nn with
    | zero => intro x1 a hx hs ha hm; exact absurd hm (Nat.not_lt_zero _)
    | succ nn ih6 =>
      intro x1 a hx hs ha hm6 H locs hP hD hS ls hl
      refine lv_iload zx zb dX12_floods_6 (lv_at hl 5 rfl) ?_
      refine lv_aload_n zx zb dX12_floods_8 rfl (lv_at hl 0 rfl) ?_
      refine g_get (v := .ref (m 1)) XX hP 0 0 rfl rfl rfl iwX12 0 (by decide) fl_X12_7 rfl dX12_floods_9 ?_
      refine lv_iconst (v := nI 0) zx zb dX12_floods_12 (by decide) ?_
      refine g_ialdN (i := 0) XX hP 1 0 rfl rfl (by omega) (by decide) dX12_floods_13 ?_
      refine g_top (y := nI (C.1)) (Rel.n hr) ?_
      refine lv_icmp_ge (tgt := 99) zx zb dX12_floods_14 (by decide) (fun c_14 => ?_) (fun c_14 => ?_)
      · have c_14 : C.1 ≤ x1 := (nI_leI (a := C.1) (b := x1) (by omega) (by omega)).mp c_14
        refine lv_iload zx zb dX12_floods_99 (lv_at hl 4 rfl) ?_
        exact fin _ _ a () 101 _ dX12_floods_101 (fun h => by cases h) (by have e : x1 = C.1 := (by omega); subst e; rw [ha]; unfold coWater; rw [firstN_eq hs (Or.inr rfl)]) hP hD hS
      · have c_14 : ¬ (C.1 ≤ x1) := fun h => c_14 ((nI_leI (a := C.1) (b := x1) (by omega) (by omega)).mpr h)
        obtain ⟨t1, et, ht1⟩ := inv_tn hI (show x1 < 8 by omega)
        have hbx := hb x1 (by omega) t1 et (by omega)
        refine lv_iload_n zx zb dX12_floods_17 rfl (lv_at hl 3 rfl) ?_
        refine lv_aload_n zx zb dX12_floods_18 rfl (lv_at hl 0 rfl) ?_
        refine g_get (v := .ref (m 1)) XX hP 0 0 rfl rfl rfl iwX12 0 (by decide) fl_X12_7 rfl dX12_floods_19 ?_
        refine lv_iload zx zb dX12_floods_22 (lv_at hl 5 rfl) ?_
        refine lv_iconst (v := nI 2) zx zb dX12_floods_24 (by decide) ?_
        refine callR_Si (As := [.int (nI x1), .int (nI 2)]) (rest := [.ref (m 1), .int o]) XX cs_X12_73 (c_X12_at Γ l x1 2 ) hP hD hS hA nil_mem nil_D rfl hl.1 rfl ⟨⟨by decide, by decide⟩, by decide, by decide⟩ (Nat.le_of_ble_eq_true rfl) dX12_floods_25 (fun r_25 H locs hw hP hS => ?_)
        have hw := hw.symm
        subst hw
        refine g_ialdN (i := 15 + 5 * x1 + 2) XX hP 1 0 rfl rfl (by omega) (by decide) dX12_floods_28 ?_
        refine g_top (y := C.2.2.2.2.1 x1) (Rel.c2 hr (by omega)) ?_
        refine g_top (y := nI t1) (et) ?_
        refine lv_ishr zx zb dX12_floods_29 ?_
        refine g_top (y := o >>> (nI t1)) (sh31r _ (by omega)) ?_
        refine lv_iconst (v := nI 1) zx zb dX12_floods_30 (by decide) ?_
        refine lv_iand zx zb dX12_floods_31 ?_
        refine g_top (y := (o >>> (nI t1)) &&& 1) rfl ?_
        refine lv_iconst (v := nI 1) zx zb dX12_floods_32 (by decide) ?_
        refine lv_icmp_ne (tgt := 40) zx zb dX12_floods_33 (by decide) (fun c_33 => ?_) (fun c_33 => ?_)
        · have c_33 : hasB o t1 = false := shrBf (by omega) c_33
          refine lv_aload_n zx zb dX12_floods_40 rfl (lv_at hl 0 rfl) ?_
          refine g_get (v := .ref (m 1)) XX hP 0 0 rfl rfl rfl iwX12 0 (by decide) fl_X12_7 rfl dX12_floods_41 ?_
          refine lv_iload zx zb dX12_floods_44 (lv_at hl 5 rfl) ?_
          refine lv_iconst (v := nI 3) zx zb dX12_floods_46 (by decide) ?_
          refine callR_Si (As := [.int (nI x1), .int (nI 3)]) (rest := [.ref (m 1)]) XX cs_X12_73 (c_X12_at Γ l x1 3 ) hP hD hS hA nil_mem nil_D rfl hl.1 rfl ⟨⟨by decide, by decide⟩, by decide, by decide⟩ (Nat.le_of_ble_eq_true rfl) dX12_floods_47 (fun r_47 H locs hw hP hS => ?_)
          have hw := hw.symm
          subst hw
          refine g_ialdN (i := 15 + 5 * x1 + 3) XX hP 1 0 rfl rfl (by omega) (by decide) dX12_floods_50 ?_
          refine g_top (y := Y.2.2.2.1 x1) (Rel.c3 hr (by omega)) ?_
          refine lv_istore (lv' := [(6, .int (Y.2.2.2.1 x1)), (0, .ref (m 0)), (1, .int q), (2, .int g), (3, .int o), (4, .int a), (5, .int (nI x1))]) zx zb dX12_floods_51 hl (by decide) rfl (fun ls hl => ?_)
          refine lv_iload_n zx zb dX12_floods_53 rfl (lv_at hl 2 rfl) ?_
          refine lv_aload_n zx zb dX12_floods_54 rfl (lv_at hl 1 rfl) ?_
          refine g_get (v := .ref (m 1)) XX hP 0 0 rfl rfl rfl iwX12 0 (by decide) fl_X12_7 rfl dX12_floods_55 ?_
          refine lv_iload zx zb dX12_floods_58 (lv_at hl 6 rfl) ?_
          refine lv_iconst (v := nI 0) zx zb dX12_floods_60 (by decide) ?_
          refine callR_Si (As := [.int (nI x1), .int (nI 0)]) (rest := [.ref (m 1), .int q]) XX cs_X12_73 (c_X12_at Γ l x1 0 ) hP hD hS hA nil_mem nil_D rfl hl.1 rfl ⟨⟨by decide, by decide⟩, by decide, by decide⟩ (Nat.le_of_ble_eq_true rfl) dX12_floods_61 (fun r_61 H locs hw hP hS => ?_)
          have hw := hw.symm
          subst hw
          refine g_ialdN (i := 15 + 5 * x1 + 0) XX hP 1 0 rfl rfl (by omega) (by decide) dX12_floods_64 ?_
          refine g_top (y := C.2.2.1 x1) (Rel.c0 hr (by omega)) ?_
          refine lv_iload zx zb dX12_floods_65 (lv_at hl 0 rfl) ?_
          refine lv_iadd zx zb dX12_floods_67 ?_
          refine lv_icmp_le (tgt := 81) zx zb dX12_floods_68 (by decide) (fun c_68 => ?_) (fun c_68 => ?_)
          · have c_68 : q ≤ ((C.2.2.1 x1) + (Y.2.2.2.1 x1)) := c_68
            refine lv_iload zx zb dX12_floods_81 (lv_at hl 5 rfl) ?_
            exact fin _ _ a () 83 _ dX12_floods_83 (fun h => by cases h) (by rw [ha]; unfold coWater; first | exact (congrArg preB (firstN_eq hs (Or.inl ⟨show x1 < C.1 by omega, wet_a (hbx.trans c_33) c_68⟩))).symm | exact (congrArg preB (firstN_eq hs (Or.inl ⟨show x1 < C.1 by omega, wet_b (hbx.trans c_33) c_68⟩))).symm | exact (congrArg preB (firstN_eq hs (Or.inl ⟨show x1 < C.1 by omega, wet_c c_78⟩))).symm) hP hD hS
          · have c_68 : ¬ (q ≤ ((C.2.2.1 x1) + (Y.2.2.2.1 x1))) := c_68
            refine lv_iload_n zx zb dX12_floods_71 rfl (lv_at hl 3 rfl) ?_
            refine lv_iload zx zb dX12_floods_72 (lv_at hl 6 rfl) ?_
            refine lv_ishr zx zb dX12_floods_74 ?_
            refine g_top (y := g >>> (nI x1)) (sh31r _ (by omega)) ?_
            refine lv_iconst (v := nI 1) zx zb dX12_floods_75 (by decide) ?_
            refine lv_iand zx zb dX12_floods_76 ?_
            refine g_top (y := (g >>> (nI x1)) &&& 1) rfl ?_
            refine lv_iconst (v := nI 1) zx zb dX12_floods_77 (by decide) ?_
            refine lv_icmp_ne (tgt := 84) zx zb dX12_floods_78 (by decide) (fun c_78 => ?_) (fun c_78 => ?_)
            · have c_78 : hasB g x1 = false := shrBf (by omega) c_78
              refine lv_iload zx zb dX12_floods_84 (lv_at hl 5 rfl) ?_
              refine lv_iconst (v := nI 1) zx zb dX12_floods_86 (by decide) ?_
              refine lv_iload zx zb dX12_floods_87 (lv_at hl 6 rfl) ?_
              refine lv_ishl zx zb dX12_floods_89 ?_
              refine g_top (y := bit x1) (sh31l _ (by omega)) ?_
              refine lv_ior zx zb dX12_floods_90 ?_
              refine lv_istore (lv' := [(4, .int (a ||| (bit x1))), (6, .int (Y.2.2.2.1 x1)), (0, .ref (m 0)), (1, .int q), (2, .int g), (3, .int o), (5, .int (nI x1))]) zx zb dX12_floods_91 hl (by decide) rfl (fun ls hl => ?_)
              refine lv_iinc (v := nI (x1 + 1)) (lv' := [(5, .int (nI (x1 + 1))), (4, .int (a ||| (bit x1))), (6, .int (Y.2.2.2.1 x1)), (0, .ref (m 0)), (1, .int q), (2, .int g), (3, .int o)]) zx zb dX12_floods_93 hl (k := 6) rfl (nI_inc _ 1) (by decide) rfl (fun ls hl => ?_)
              refine lv_goto (tgt := 6) zx zb dX12_floods_96 (by decide) ?_
              exact ih6 (x1 + 1) (a ||| (bit x1)) (by omega) (lt_s hs (by first | exact dry_a (hbx.trans c_33) c_68 c_78 | exact dry_b (hbx.trans c_33) c_68 c_78)) (by rw [preB, ← ha]) (by omega) _ _ hP hD hS _ (lv_sub hl [3, 4, 5, 6, 1, 0] rfl)
            · have c_78 : hasB g x1 = true := (shrB (by omega)).mp c_78
              refine lv_iload zx zb dX12_floods_81 (lv_at hl 5 rfl) ?_
              exact fin _ _ a () 83 _ dX12_floods_83 (fun h => by cases h) (by rw [ha]; unfold coWater; first | exact (congrArg preB (firstN_eq hs (Or.inl ⟨show x1 < C.1 by omega, wet_a (hbx.trans c_33) c_68⟩))).symm | exact (congrArg preB (firstN_eq hs (Or.inl ⟨show x1 < C.1 by omega, wet_b (hbx.trans c_33) c_68⟩))).symm | exact (congrArg preB (firstN_eq hs (Or.inl ⟨show x1 < C.1 by omega, wet_c c_78⟩))).symm) hP hD hS
        · have c_33 : hasB o t1 = true := (shrB (by omega)).mp c_33
          refine lv_iconst (v := nI 0) zx zb dX12_floods_36 (by decide) ?_
          refine lv_goto (tgt := 51) zx zb dX12_floods_37 (by decide) ?_
          refine lv_istore (lv' := [(6, .int (nI 0)), (0, .ref (m 0)), (1, .int q), (2, .int g), (3, .int o), (4, .int a), (5, .int (nI x1))]) zx zb dX12_floods_51 hl (by decide) rfl (fun ls hl => ?_)
          refine lv_iload_n zx zb dX12_floods_53 rfl (lv_at hl 2 rfl) ?_
          refine lv_aload_n zx zb dX12_floods_54 rfl (lv_at hl 1 rfl) ?_
          refine g_get (v := .ref (m 1)) XX hP 0 0 rfl rfl rfl iwX12 0 (by decide) fl_X12_7 rfl dX12_floods_55 ?_
          refine lv_iload zx zb dX12_floods_58 (lv_at hl 6 rfl) ?_
          refine lv_iconst (v := nI 0) zx zb dX12_floods_60 (by decide) ?_
          refine callR_Si (As := [.int (nI x1), .int (nI 0)]) (rest := [.ref (m 1), .int q]) XX cs_X12_73 (c_X12_at Γ l x1 0 ) hP hD hS hA nil_mem nil_D rfl hl.1 rfl ⟨⟨by decide, by decide⟩, by decide, by decide⟩ (Nat.le_of_ble_eq_true rfl) dX12_floods_61 (fun r_61 H locs hw hP hS => ?_)
          have hw := hw.symm
          subst hw
          refine g_ialdN (i := 15 + 5 * x1 + 0) XX hP 1 0 rfl rfl (by omega) (by decide) dX12_floods_64 ?_
          refine g_top (y := C.2.2.1 x1) (Rel.c0 hr (by omega)) ?_
          refine lv_iload zx zb dX12_floods_65 (lv_at hl 0 rfl) ?_
          refine lv_iadd zx zb dX12_floods_67 ?_
          refine g_top (y := (C.2.2.1 x1) + 0) rfl ?_
          refine lv_icmp_le (tgt := 81) zx zb dX12_floods_68 (by decide) (fun c_68 => ?_) (fun c_68 => ?_)
          · have c_68 : q ≤ ((C.2.2.1 x1) + 0) := c_68
            refine lv_iload zx zb dX12_floods_81 (lv_at hl 5 rfl) ?_
            exact fin _ _ a () 83 _ dX12_floods_83 (fun h => by cases h) (by rw [ha]; unfold coWater; first | exact (congrArg preB (firstN_eq hs (Or.inl ⟨show x1 < C.1 by omega, wet_a (hbx.trans c_33) c_68⟩))).symm | exact (congrArg preB (firstN_eq hs (Or.inl ⟨show x1 < C.1 by omega, wet_b (hbx.trans c_33) c_68⟩))).symm | exact (congrArg preB (firstN_eq hs (Or.inl ⟨show x1 < C.1 by omega, wet_c c_78⟩))).symm) hP hD hS
          · have c_68 : ¬ (q ≤ ((C.2.2.1 x1) + 0)) := c_68
            refine lv_iload_n zx zb dX12_floods_71 rfl (lv_at hl 3 rfl) ?_
            refine lv_iload zx zb dX12_floods_72 (lv_at hl 6 rfl) ?_
            refine lv_ishr zx zb dX12_floods_74 ?_
            refine g_top (y := g >>> (nI x1)) (sh31r _ (by omega)) ?_
            refine lv_iconst (v := nI 1) zx zb dX12_floods_75 (by decide) ?_
            refine lv_iand zx zb dX12_floods_76 ?_
            refine g_top (y := (g >>> (nI x1)) &&& 1) rfl ?_
            refine lv_iconst (v := nI 1) zx zb dX12_floods_77 (by decide) ?_
            refine lv_icmp_ne (tgt := 84) zx zb dX12_floods_78 (by decide) (fun c_78 => ?_) (fun c_78 => ?_)
            · have c_78 : hasB g x1 = false := shrBf (by omega) c_78
              refine lv_iload zx zb dX12_floods_84 (lv_at hl 5 rfl) ?_
              refine lv_iconst (v := nI 1) zx zb dX12_floods_86 (by decide) ?_
              refine lv_iload zx zb dX12_floods_87 (lv_at hl 6 rfl) ?_
              refine lv_ishl zx zb dX12_floods_89 ?_
              refine g_top (y := bit x1) (sh31l _ (by omega)) ?_
              refine lv_ior zx zb dX12_floods_90 ?_
              refine lv_istore (lv' := [(4, .int (a ||| (bit x1))), (6, .int (nI 0)), (0, .ref (m 0)), (1, .int q), (2, .int g), (3, .int o), (5, .int (nI x1))]) zx zb dX12_floods_91 hl (by decide) rfl (fun ls hl => ?_)
              refine lv_iinc (v := nI (x1 + 1)) (lv' := [(5, .int (nI (x1 + 1))), (4, .int (a ||| (bit x1))), (6, .int (nI 0)), (0, .ref (m 0)), (1, .int q), (2, .int g), (3, .int o)]) zx zb dX12_floods_93 hl (k := 6) rfl (nI_inc _ 1) (by decide) rfl (fun ls hl => ?_)
              refine lv_goto (tgt := 6) zx zb dX12_floods_96 (by decide) ?_
              exact ih6 (x1 + 1) (a ||| (bit x1)) (by omega) (lt_s hs (by first | exact dry_a (hbx.trans c_33) c_68 c_78 | exact dry_b (hbx.trans c_33) c_68 c_78)) (by rw [preB, ← ha]) (by omega) _ _ hP hD hS _ (lv_sub hl [3, 4, 5, 6, 1, 0] rfl)
            · have c_78 : hasB g x1 = true := (shrB (by omega)).mp c_78
              refine lv_iload zx zb dX12_floods_81 (lv_at hl 5 rfl) ?_
              exact fin _ _ a () 83 _ dX12_floods_83 (fun h => by cases h) (by rw [ha]; unfold coWater; first | exact (congrArg preB (firstN_eq hs (Or.inl ⟨show x1 < C.1 by omega, wet_a (hbx.trans c_33) c_68⟩))).symm | exact (congrArg preB (firstN_eq hs (Or.inl ⟨show x1 < C.1 by omega, wet_b (hbx.trans c_33) c_68⟩))).symm | exact (congrArg preB (firstN_eq hs (Or.inl ⟨show x1 < C.1 by omega, wet_c c_78⟩))).symm) hP hD hS
  exact L6 _ 0 0 (by omega) (lt_0) (rfl) (Nat.lt_succ_self _) _ _ hP hD hS _ (lv_sub hl [2, 3, 4, 5, 1, 0] rfl)
