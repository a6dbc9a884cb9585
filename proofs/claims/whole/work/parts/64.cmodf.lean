theorem cs_X12_246 : CWS RX12 246 yX12_bits cX12_bits 3 (some (.int)) 1 := ⟨cd_X12_bits, st_X12_bits, in_X12, ml_X12_246, by decide +kernel⟩
theorem cs_X12_260 : CWS RX12 260 yX12_shareYears cX12_shareYears 4 (some (.boolean)) 4 := ⟨cd_X12_shareYears, st_X12_shareYears, in_X12, ml_X12_260, by decide +kernel⟩
theorem cv_X12_257 : CWV RX12 257 RX12 yX12_shareCells cX12_shareCells 3 (some (.boolean)) 2 := ⟨cd_X12_shareCells, im_X12_shareCells, se_X12_X12_shareCells_X12_shareCells, in_X12, ml_X12_257, by decide +kernel⟩
theorem cv_X12_267 : CWV RX12 267 RX12 yX12_losesBy cX12_losesBy 6 (some (.int)) 2 := ⟨cd_X12_losesBy, im_X12_losesBy, se_X12_X12_losesBy_X12_losesBy, in_X12, ml_X12_267, by decide +kernel⟩
set_option maxHeartbeats 4000000 in
set_option maxRecDepth 100000 in
theorem c_X12_rests (Γ : GG) (l : Launch) (m : Nat → Nat) (M : MoV) (b : Nat → Int32) (C : CoV) (tr : Nat → TrV) (Y : YrV) (pc : Nat) (P : Nat → YrV) (f : Nat → Int32) (w : Int32) (hr : Rel b C tr Y pc P) (hI : Inv C tr Y) : Ci Γ l yX12_rests cX12_rests 7 (some (.int)) 6 139 0 0 [.ref (m 0), .int w] [bMo Γ m M, bA Γ (m 1) 259 b, bA Γ (m 6) 3 f] (fun (r : Int32) (u : Nat → Int32) => r = reR C tr Y w ∧ u = moV M f (wi w 0 1)) (fun (u : Nat → Int32) => [bMo Γ m M, bA Γ (m 1) 259 b, bA Γ (m 6) 3 u]) := by
  refine Ci.of (Or.inl rfl) (by decide) (Nat.le_of_ble_eq_true rfl) ?_
  intro pp ee ss mm bb me cd AA QQ XX hnm hA hP hD fin ls hl
  obtain ⟨zx, zb, hml, hown, hts, hK⟩ := id XX
  have hS : va_S AA ss.heap ss.heap [] := va_S.rf
  have hl : lv_has ls 7 [(0, .ref (m 0)), (1, .int w)] := hl
  have htc := inv_tc hI
  have hdc := inv_dc hI
  have hn := inv_n hI
  refine lv_iload_n zx zb dX12_rests_0 rfl (lv_at hl 1 rfl) ?_
  refine lv_i2l (v := w.toInt64) zx zb dX12_rests_1 rfl ?_
  refine lv_lconst (v := (0 : Int32).toInt64) zx zb dX12_rests_2 (by decide) ?_
  refine lv_lconst (v := (1 : Int32).toInt64) zx zb dX12_rests_3 (by decide) ?_
  refine callR_Si (As := [.long w.toInt64, .long ((0 : Int32).toInt64), .long ((1 : Int32).toInt64)]) (rest := []) XX cs_X12_53 (c_X12_in Γ l w 0 1 ) hP hD hS hA nil_mem nil_D rfl hl.1 rfl ⟨⟨by decide, by decide⟩, by decide, by decide⟩ (Nat.le_of_ble_eq_true rfl) dX12_rests_4 (fun r_4 H locs hw hP hS => ?_)
  have hw := hw.symm
  subst hw
  refine lv_if_ne (tgt := 18) zx zb dX12_rests_7 (by decide) (fun c_7 => ?_) (fun c_7 => ?_)
  · have c_7 : (wi w 0 1) = true := bI_ne c_7
    refine lv_iconst (v := nI 0) zx zb dX12_rests_18 (by decide) ?_
    refine lv_istore_n (lv' := [(2, .int (nI 0)), (0, .ref (m 0)), (1, .int w)]) zx zb dX12_rests_19 rfl hl (by decide) rfl (fun ls hl => ?_)
    refine lv_iconst (v := (-1)) zx zb dX12_rests_20 (by decide) ?_
    refine lv_istore_n (lv' := [(3, .int (-1)), (2, .int (nI 0)), (0, .ref (m 0)), (1, .int w)]) zx zb dX12_rests_21 rfl hl (by decide) rfl (fun ls hl => ?_)
    refine lv_iconst (v := nI 0) zx zb dX12_rests_22 (by decide) ?_
    refine lv_istore (lv' := [(4, .int (nI 0)), (3, .int (-1)), (2, .int (nI 0)), (0, .ref (m 0)), (1, .int w)]) zx zb dX12_rests_23 hl (by decide) rfl (fun ls hl => ?_)
    have L25 : ∀ (nn : Nat) (i : Nat) (b0 : Int32) (n : Nat), (i ≤ 8) → (b0 = fstN (reP C tr Y) i) → (n = cntN (reP C tr Y) i) → (n ≤ i) → 8 - i < nn → ∀ (H : Heap) (locs : List Loc), bP Γ [bMo Γ m M, bA Γ (m 1) 259 b, bA Γ (m 6) 3 f] H → bD AA [bMo Γ m M, bA Γ (m 1) 259 b, bA Γ (m 6) 3 f] → va_S AA ss.heap H locs → ∀ (ls : Array Slot), lv_has ls 7 [(0, .ref (m 0)), (1, .int w), (2, .int (nI n)), (3, .int b0), (4, .int (nI i))] → W pp l ee { frames := 6, cells := 0, slots := 0, locals := 139 } ss mm [.ref (m 0), .int w].toArray bb me cd H locs 0 0 QQ (F0 mm 25 ls []) := by
      intro nn
      induction nn with
      | zero => intro i b0 n hi hb hc hq hm; exact absurd hm (Nat.not_lt_zero _)
      | succ nn ih25 =>
        intro i b0 n hi hb hc hq hm25 H locs hP hD hS ls hl
        refine lv_iload zx zb dX12_rests_25 (lv_at hl 4 rfl) ?_
        refine lv_bipush (v := nI 8) zx zb dX12_rests_27 (by decide) ?_
        refine lv_icmp_ge (tgt := 122) zx zb dX12_rests_29 (by decide) (fun c_29 => ?_) (fun c_29 => ?_)
        · have c_29 : 8 ≤ i := (nI_leI (a := 8) (b := i) (by omega) (by omega)).mp c_29
          refine lv_iload_n zx zb dX12_rests_122 rfl (lv_at hl 1 rfl) ?_
          refine lv_if_ne (tgt := 130) zx zb dX12_rests_123 (by decide) (fun c_123 => ?_) (fun c_123 => ?_)
          · have c_123 : ¬ (w = (0 : Int32)) := c_123
            refine lv_iload_n zx zb dX12_rests_130 rfl (lv_at hl 3 rfl) ?_
            exact fin _ _ b0 f 131 _ dX12_rests_131 (fun h => by cases h) ⟨(by have e : i = 8 := (by omega); subst e; unfold reR; rw [if_pos c_7]; first | (rw [if_pos c_123, hc]; done) | (rw [if_neg c_123, hb]; done)), (by unfold moV; rw [c_7]; rfl)⟩ hP hD hS
          · have c_123 : w = (0 : Int32) := c_123
            refine lv_iload_n zx zb dX12_rests_126 rfl (lv_at hl 2 rfl) ?_
            refine lv_goto (tgt := 131) zx zb dX12_rests_127 (by decide) ?_
            exact fin _ _ (nI n) f 131 _ dX12_rests_131 (fun h => by cases h) ⟨(by have e : i = 8 := (by omega); subst e; unfold reR; rw [if_pos c_7]; first | (rw [if_pos c_123, hc]; done) | (rw [if_neg c_123, hb]; done)), (by unfold moV; rw [c_7]; rfl)⟩ hP hD hS
        · have c_29 : ¬ (8 ≤ i) := fun h => c_29 ((nI_leI (a := 8) (b := i) (by omega) (by omega)).mpr h)
          refine lv_iconst (v := nI 1) zx zb dX12_rests_32 (by decide) ?_
          refine lv_istore (lv' := [(5, .int (nI 1)), (0, .ref (m 0)), (1, .int w), (2, .int (nI n)), (3, .int b0), (4, .int (nI i))]) zx zb dX12_rests_33 hl (by decide) rfl (fun ls hl => ?_)
          refine lv_iconst (v := nI 0) zx zb dX12_rests_35 (by decide) ?_
          refine lv_istore (lv' := [(6, .int (nI 0)), (5, .int (nI 1)), (0, .ref (m 0)), (1, .int w), (2, .int (nI n)), (3, .int b0), (4, .int (nI i))]) zx zb dX12_rests_36 hl (by decide) rfl (fun ls hl => ?_)
          have L38 : ∀ (nn : Nat) (t : Nat) (a : Bool), (t ≤ 3) → (a = allN (restP C tr Y (nI i)) t) → 3 - t < nn → ∀ (H : Heap) (locs : List Loc), bP Γ [bMo Γ m M, bA Γ (m 1) 259 b, bA Γ (m 6) 3 f] H → bD AA [bMo Γ m M, bA Γ (m 1) 259 b, bA Γ (m 6) 3 f] → va_S AA ss.heap H locs → ∀ (ls : Array Slot), lv_has ls 7 [(0, .ref (m 0)), (1, .int w), (2, .int (nI n)), (3, .int b0), (4, .int (nI i)), (5, .int (bI a)), (6, .int (nI t))] → W pp l ee { frames := 6, cells := 0, slots := 0, locals := 139 } ss mm [.ref (m 0), .int w].toArray bb me cd H locs 0 0 QQ (F0 mm 38 ls []) := by
            intro nn
            induction nn with
            | zero => intro t a ht ha hm; exact absurd hm (Nat.not_lt_zero _)
            | succ nn ih38 =>
              intro t a ht ha hm38 H locs hP hD hS ls hl
              refine lv_iload zx zb dX12_rests_38 (lv_at hl 6 rfl) ?_
              refine lv_iconst (v := nI 3) zx zb dX12_rests_40 (by decide) ?_
              refine lv_icmp_ge (tgt := 86) zx zb dX12_rests_41 (by decide) (fun c_41 => ?_) (fun c_41 => ?_)
              · have c_41 : 3 ≤ t := (nI_leI (a := 3) (b := t) (by omega) (by omega)).mp c_41
                refine lv_iload_n zx zb dX12_rests_86 rfl (lv_at hl 2 rfl) ?_
                refine lv_iload zx zb dX12_rests_87 (lv_at hl 5 rfl) ?_
                refine lv_if_eq (tgt := 96) zx zb dX12_rests_89 (by decide) (fun c_89 => ?_) (fun c_89 => ?_)
                · have c_89 : a = false := bI_0.mp c_89
                  refine lv_iconst (v := nI 0) zx zb dX12_rests_96 (by decide) ?_
                  refine lv_iadd zx zb dX12_rests_97 ?_
                  refine g_top (y := nI n) (nI_add n 0) ?_
                  refine lv_istore_n (lv' := [(2, .int (nI n)), (0, .ref (m 0)), (1, .int w), (3, .int b0), (4, .int (nI i)), (5, .int (bI a)), (6, .int (nI t))]) zx zb dX12_rests_98 rfl hl (by decide) rfl (fun ls hl => ?_)
                  refine lv_iload zx zb dX12_rests_99 (lv_at hl 5 rfl) ?_
                  refine lv_if_eq (tgt := 114) zx zb dX12_rests_101 (by decide) (fun c_101 => ?_) (fun c_101 => ?_)
                  · have c_101 : a = false := bI_0.mp c_101
                    refine lv_iload_n zx zb dX12_rests_114 rfl (lv_at hl 3 rfl) ?_
                    refine lv_istore_n (lv' := [(3, .int b0), (2, .int (nI n)), (0, .ref (m 0)), (1, .int w), (4, .int (nI i)), (5, .int (bI a)), (6, .int (nI t))]) zx zb dX12_rests_115 rfl hl (by decide) rfl (fun ls hl => ?_)
                    refine lv_iinc (v := nI (i + 1)) (lv' := [(4, .int (nI (i + 1))), (3, .int b0), (2, .int (nI n)), (0, .ref (m 0)), (1, .int w), (5, .int (bI a)), (6, .int (nI t))]) zx zb dX12_rests_116 hl (k := 4) rfl (nI_inc _ 1) (by decide) rfl (fun ls hl => ?_)
                    refine lv_goto (tgt := 25) zx zb dX12_rests_119 (by decide) ?_
                    exact ih25 (i + 1) b0 n (by omega) (by have et : t = 3 := (by omega); subst et; first | exact fst_m (by omega) hb hc (ha.symm.trans c_101) c_106 | exact fst_o (by omega) hb hc (ha.symm.trans c_101) c_106 | exact fst_no hb (ha.symm.trans c_101)) (by have et : t = 3 := (by omega); subst et; first | exact cnt_y hc (ha.symm.trans c_89) | exact cnt_n hc (ha.symm.trans c_89)) (by omega) (by omega) _ _ hP hD hS _ (lv_sub hl [3, 4, 2, 1, 0] rfl)
                  · have c_101 : a = true := bI_ne c_101
                    refine lv_iload_n zx zb dX12_rests_104 rfl (lv_at hl 3 rfl) ?_
                    refine lv_iconst (v := (-1)) zx zb dX12_rests_105 (by decide) ?_
                    refine lv_icmp_ne (tgt := 114) zx zb dX12_rests_106 (by decide) (fun c_106 => ?_) (fun c_106 => ?_)
                    · have c_106 : ¬ (b0 = (-1)) := c_106
                      refine lv_iload_n zx zb dX12_rests_114 rfl (lv_at hl 3 rfl) ?_
                      refine lv_istore_n (lv' := [(3, .int b0), (2, .int (nI n)), (0, .ref (m 0)), (1, .int w), (4, .int (nI i)), (5, .int (bI a)), (6, .int (nI t))]) zx zb dX12_rests_115 rfl hl (by decide) rfl (fun ls hl => ?_)
                      refine lv_iinc (v := nI (i + 1)) (lv' := [(4, .int (nI (i + 1))), (3, .int b0), (2, .int (nI n)), (0, .ref (m 0)), (1, .int w), (5, .int (bI a)), (6, .int (nI t))]) zx zb dX12_rests_116 hl (k := 4) rfl (nI_inc _ 1) (by decide) rfl (fun ls hl => ?_)
                      refine lv_goto (tgt := 25) zx zb dX12_rests_119 (by decide) ?_
                      exact ih25 (i + 1) b0 n (by omega) (by have et : t = 3 := (by omega); subst et; first | exact fst_m (by omega) hb hc (ha.symm.trans c_101) c_106 | exact fst_o (by omega) hb hc (ha.symm.trans c_101) c_106 | exact fst_no hb (ha.symm.trans c_101)) (by have et : t = 3 := (by omega); subst et; first | exact cnt_y hc (ha.symm.trans c_89) | exact cnt_n hc (ha.symm.trans c_89)) (by omega) (by omega) _ _ hP hD hS _ (lv_sub hl [3, 4, 2, 1, 0] rfl)
                    · have c_106 : b0 = (-1) := c_106
                      refine lv_iload zx zb dX12_rests_109 (lv_at hl 4 rfl) ?_
                      refine lv_goto (tgt := 115) zx zb dX12_rests_111 (by decide) ?_
                      refine lv_istore_n (lv' := [(3, .int (nI i)), (2, .int (nI n)), (0, .ref (m 0)), (1, .int w), (4, .int (nI i)), (5, .int (bI a)), (6, .int (nI t))]) zx zb dX12_rests_115 rfl hl (by decide) rfl (fun ls hl => ?_)
                      refine lv_iinc (v := nI (i + 1)) (lv' := [(4, .int (nI (i + 1))), (3, .int (nI i)), (2, .int (nI n)), (0, .ref (m 0)), (1, .int w), (5, .int (bI a)), (6, .int (nI t))]) zx zb dX12_rests_116 hl (k := 4) rfl (nI_inc _ 1) (by decide) rfl (fun ls hl => ?_)
                      refine lv_goto (tgt := 25) zx zb dX12_rests_119 (by decide) ?_
                      exact ih25 (i + 1) (nI i) n (by omega) (by have et : t = 3 := (by omega); subst et; first | exact fst_m (by omega) hb hc (ha.symm.trans c_101) c_106 | exact fst_o (by omega) hb hc (ha.symm.trans c_101) c_106 | exact fst_no hb (ha.symm.trans c_101)) (by have et : t = 3 := (by omega); subst et; first | exact cnt_y hc (ha.symm.trans c_89) | exact cnt_n hc (ha.symm.trans c_89)) (by omega) (by omega) _ _ hP hD hS _ (lv_sub hl [3, 4, 2, 1, 0] rfl)
                · have c_89 : a = true := bI_ne c_89
                  refine lv_iconst (v := nI 1) zx zb dX12_rests_92 (by decide) ?_
                  refine lv_goto (tgt := 97) zx zb dX12_rests_93 (by decide) ?_
                  refine lv_iadd zx zb dX12_rests_97 ?_
                  refine g_top (y := nI (n + 1)) (nI_add n 1) ?_
                  refine lv_istore_n (lv' := [(2, .int (nI (n + 1))), (0, .ref (m 0)), (1, .int w), (3, .int b0), (4, .int (nI i)), (5, .int (bI a)), (6, .int (nI t))]) zx zb dX12_rests_98 rfl hl (by decide) rfl (fun ls hl => ?_)
                  refine lv_iload zx zb dX12_rests_99 (lv_at hl 5 rfl) ?_
                  refine lv_if_eq (tgt := 114) zx zb dX12_rests_101 (by decide) (fun c_101 => ?_) (fun c_101 => ?_)
                  · have c_101 : a = false := bI_0.mp c_101
                    refine lv_iload_n zx zb dX12_rests_114 rfl (lv_at hl 3 rfl) ?_
                    refine lv_istore_n (lv' := [(3, .int b0), (2, .int (nI (n + 1))), (0, .ref (m 0)), (1, .int w), (4, .int (nI i)), (5, .int (bI a)), (6, .int (nI t))]) zx zb dX12_rests_115 rfl hl (by decide) rfl (fun ls hl => ?_)
                    refine lv_iinc (v := nI (i + 1)) (lv' := [(4, .int (nI (i + 1))), (3, .int b0), (2, .int (nI (n + 1))), (0, .ref (m 0)), (1, .int w), (5, .int (bI a)), (6, .int (nI t))]) zx zb dX12_rests_116 hl (k := 4) rfl (nI_inc _ 1) (by decide) rfl (fun ls hl => ?_)
                    refine lv_goto (tgt := 25) zx zb dX12_rests_119 (by decide) ?_
                    exact ih25 (i + 1) b0 (n + 1) (by omega) (by have et : t = 3 := (by omega); subst et; first | exact fst_m (by omega) hb hc (ha.symm.trans c_101) c_106 | exact fst_o (by omega) hb hc (ha.symm.trans c_101) c_106 | exact fst_no hb (ha.symm.trans c_101)) (by have et : t = 3 := (by omega); subst et; first | exact cnt_y hc (ha.symm.trans c_89) | exact cnt_n hc (ha.symm.trans c_89)) (by omega) (by omega) _ _ hP hD hS _ (lv_sub hl [3, 4, 2, 1, 0] rfl)
                  · have c_101 : a = true := bI_ne c_101
                    refine lv_iload_n zx zb dX12_rests_104 rfl (lv_at hl 3 rfl) ?_
                    refine lv_iconst (v := (-1)) zx zb dX12_rests_105 (by decide) ?_
                    refine lv_icmp_ne (tgt := 114) zx zb dX12_rests_106 (by decide) (fun c_106 => ?_) (fun c_106 => ?_)
                    · have c_106 : ¬ (b0 = (-1)) := c_106
                      refine lv_iload_n zx zb dX12_rests_114 rfl (lv_at hl 3 rfl) ?_
                      refine lv_istore_n (lv' := [(3, .int b0), (2, .int (nI (n + 1))), (0, .ref (m 0)), (1, .int w), (4, .int (nI i)), (5, .int (bI a)), (6, .int (nI t))]) zx zb dX12_rests_115 rfl hl (by decide) rfl (fun ls hl => ?_)
                      refine lv_iinc (v := nI (i + 1)) (lv' := [(4, .int (nI (i + 1))), (3, .int b0), (2, .int (nI (n + 1))), (0, .ref (m 0)), (1, .int w), (5, .int (bI a)), (6, .int (nI t))]) zx zb dX12_rests_116 hl (k := 4) rfl (nI_inc _ 1) (by decide) rfl (fun ls hl => ?_)
                      refine lv_goto (tgt := 25) zx zb dX12_rests_119 (by decide) ?_
                      exact ih25 (i + 1) b0 (n + 1) (by omega) (by have et : t = 3 := (by omega); subst et; first | exact fst_m (by omega) hb hc (ha.symm.trans c_101) c_106 | exact fst_o (by omega) hb hc (ha.symm.trans c_101) c_106 | exact fst_no hb (ha.symm.trans c_101)) (by have et : t = 3 := (by omega); subst et; first | exact cnt_y hc (ha.symm.trans c_89) | exact cnt_n hc (ha.symm.trans c_89)) (by omega) (by omega) _ _ hP hD hS _ (lv_sub hl [3, 4, 2, 1, 0] rfl)
                    · have c_106 : b0 = (-1) := c_106
                      refine lv_iload zx zb dX12_rests_109 (lv_at hl 4 rfl) ?_
                      refine lv_goto (tgt := 115) zx zb dX12_rests_111 (by decide) ?_
                      refine lv_istore_n (lv' := [(3, .int (nI i)), (2, .int (nI (n + 1))), (0, .ref (m 0)), (1, .int w), (4, .int (nI i)), (5, .int (bI a)), (6, .int (nI t))]) zx zb dX12_rests_115 rfl hl (by decide) rfl (fun ls hl => ?_)
                      refine lv_iinc (v := nI (i + 1)) (lv' := [(4, .int (nI (i + 1))), (3, .int (nI i)), (2, .int (nI (n + 1))), (0, .ref (m 0)), (1, .int w), (5, .int (bI a)), (6, .int (nI t))]) zx zb dX12_rests_116 hl (k := 4) rfl (nI_inc _ 1) (by decide) rfl (fun ls hl => ?_)
                      refine lv_goto (tgt := 25) zx zb dX12_rests_119 (by decide) ?_
                      exact ih25 (i + 1) (nI i) (n + 1) (by omega) (by have et : t = 3 := (by omega); subst et; first | exact fst_m (by omega) hb hc (ha.symm.trans c_101) c_106 | exact fst_o (by omega) hb hc (ha.symm.trans c_101) c_106 | exact fst_no hb (ha.symm.trans c_101)) (by have et : t = 3 := (by omega); subst et; first | exact cnt_y hc (ha.symm.trans c_89) | exact cnt_n hc (ha.symm.trans c_89)) (by omega) (by omega) _ _ hP hD hS _ (lv_sub hl [3, 4, 2, 1, 0] rfl)
              · have c_41 : ¬ (3 ≤ t) := fun h => c_41 ((nI_leI (a := 3) (b := t) (by omega) (by omega)).mpr h)
                refine lv_iload zx zb dX12_rests_44 (lv_at hl 5 rfl) ?_
                refine lv_if_eq (tgt := 77) zx zb dX12_rests_46 (by decide) (fun c_46 => ?_) (fun c_46 => ?_)
                · have c_46 : a = false := bI_0.mp c_46
                  refine lv_iconst (v := nI 0) zx zb dX12_rests_77 (by decide) ?_
                  refine lv_istore (lv' := [(5, .int (nI 0)), (0, .ref (m 0)), (1, .int w), (2, .int (nI n)), (3, .int b0), (4, .int (nI i)), (6, .int (nI t))]) zx zb dX12_rests_78 hl (by decide) rfl (fun ls hl => ?_)
                  refine lv_iinc (v := nI (t + 1)) (lv' := [(6, .int (nI (t + 1))), (5, .int (nI 0)), (0, .ref (m 0)), (1, .int w), (2, .int (nI n)), (3, .int b0), (4, .int (nI i))]) zx zb dX12_rests_80 hl (k := 6) rfl (nI_inc _ 1) (by decide) rfl (fun ls hl => ?_)
                  refine lv_goto (tgt := 38) zx zb dX12_rests_83 (by decide) ?_
                  exact ih38 (t + 1) false (by omega) (by first | exact re_1 ha c_46 | exact re_2 ha c_46 c_70 | exact re_3 ha c_70) (by omega) _ _ hP hD hS _ (lv_sub hl [2, 3, 4, 5, 6, 1, 0] rfl)
                · have c_46 : a = true := bI_ne c_46
                  refine lv_aload_n zx zb dX12_rests_49 rfl (lv_at hl 0 rfl) ?_
                  refine lv_iload zx zb dX12_rests_50 (lv_at hl 6 rfl) ?_
                  refine lv_iload zx zb dX12_rests_52 (lv_at hl 4 rfl) ?_
                  refine call_Vi (As := [.int (nI t), .int (nI i)]) (rest := []) XX cv_X12_267 (c_X12_losesBy Γ l m M b C tr Y pc P t (nI i) (hr) (hI) (by omega)) hP hD hS hA [0, 1] (by decide) rfl (fun _ => rfl) 0 0 rfl rfl rfl rfl hl.1 rfl ⟨⟨by decide, by decide⟩, by decide, by decide⟩ (Nat.le_of_ble_eq_true rfl) dX12_rests_54 (fun r_54 u H locs hw hP hD hS => ?_)
                  have hw := hw.symm
                  subst hw
                  have hP : bP Γ [bMo Γ m M, bA Γ (m 1) 259 b, bA Γ (m 6) 3 f] H := hP
                  have hD : bD AA [bMo Γ m M, bA Γ (m 1) 259 b, bA Γ (m 6) 3 f] := hD
                  refine lv_aload_n zx zb dX12_rests_57 rfl (lv_at hl 0 rfl) ?_
                  refine lv_iload zx zb dX12_rests_58 (lv_at hl 6 rfl) ?_
                  refine lv_iload zx zb dX12_rests_60 (lv_at hl 4 rfl) ?_
                  refine lv_iconst (v := nI 1) zx zb dX12_rests_62 (by decide) ?_
                  refine lv_iload zx zb dX12_rests_63 (lv_at hl 6 rfl) ?_
                  refine lv_ishl zx zb dX12_rests_65 ?_
                  refine g_top (y := bit t) (sh31l _ (by omega)) ?_
                  refine lv_ixor zx zb dX12_rests_66 ?_
                  refine call_Vi (As := [.int (nI t), .int ((nI i) ^^^ (bit t))]) (rest := [.int (lossV C tr Y t (nI i))]) XX cv_X12_267 (c_X12_losesBy Γ l m M b C tr Y pc P t ((nI i) ^^^ (bit t)) (hr) (hI) (by omega)) hP hD hS hA [0, 1] (by decide) rfl (fun _ => rfl) 0 0 rfl rfl rfl rfl hl.1 rfl ⟨⟨by decide, by decide⟩, by decide, by decide⟩ (Nat.le_of_ble_eq_true rfl) dX12_rests_67 (fun r_67 u H locs hw hP hD hS => ?_)
                  have hw := hw.symm
                  subst hw
                  have hP : bP Γ [bMo Γ m M, bA Γ (m 1) 259 b, bA Γ (m 6) 3 f] H := hP
                  have hD : bD AA [bMo Γ m M, bA Γ (m 1) 259 b, bA Γ (m 6) 3 f] := hD
                  refine lv_icmp_gt (tgt := 77) zx zb dX12_rests_70 (by decide) (fun c_70 => ?_) (fun c_70 => ?_)
                  · have c_70 : (lossV C tr Y t ((nI i) ^^^ (bit t))) < (lossV C tr Y t (nI i)) := c_70
                    refine lv_iconst (v := nI 0) zx zb dX12_rests_77 (by decide) ?_
                    refine lv_istore (lv' := [(5, .int (nI 0)), (0, .ref (m 0)), (1, .int w), (2, .int (nI n)), (3, .int b0), (4, .int (nI i)), (6, .int (nI t))]) zx zb dX12_rests_78 hl (by decide) rfl (fun ls hl => ?_)
                    refine lv_iinc (v := nI (t + 1)) (lv' := [(6, .int (nI (t + 1))), (5, .int (nI 0)), (0, .ref (m 0)), (1, .int w), (2, .int (nI n)), (3, .int b0), (4, .int (nI i))]) zx zb dX12_rests_80 hl (k := 6) rfl (nI_inc _ 1) (by decide) rfl (fun ls hl => ?_)
                    refine lv_goto (tgt := 38) zx zb dX12_rests_83 (by decide) ?_
                    exact ih38 (t + 1) false (by omega) (by first | exact re_1 ha c_46 | exact re_2 ha c_46 c_70 | exact re_3 ha c_70) (by omega) _ _ hP hD hS _ (lv_sub hl [2, 3, 4, 5, 6, 1, 0] rfl)
                  · have c_70 : ¬ ((lossV C tr Y t ((nI i) ^^^ (bit t))) < (lossV C tr Y t (nI i))) := c_70
                    refine lv_iconst (v := nI 1) zx zb dX12_rests_73 (by decide) ?_
                    refine lv_goto (tgt := 78) zx zb dX12_rests_74 (by decide) ?_
                    refine lv_istore (lv' := [(5, .int (nI 1)), (0, .ref (m 0)), (1, .int w), (2, .int (nI n)), (3, .int b0), (4, .int (nI i)), (6, .int (nI t))]) zx zb dX12_rests_78 hl (by decide) rfl (fun ls hl => ?_)
                    refine lv_iinc (v := nI (t + 1)) (lv' := [(6, .int (nI (t + 1))), (5, .int (nI 1)), (0, .ref (m 0)), (1, .int w), (2, .int (nI n)), (3, .int b0), (4, .int (nI i))]) zx zb dX12_rests_80 hl (k := 6) rfl (nI_inc _ 1) (by decide) rfl (fun ls hl => ?_)
                    refine lv_goto (tgt := 38) zx zb dX12_rests_83 (by decide) ?_
                    exact ih38 (t + 1) true (by omega) (by first | exact re_1 ha c_46 | exact re_2 ha c_46 c_70 | exact re_3 ha c_70) (by omega) _ _ hP hD hS _ (lv_sub hl [2, 3, 4, 5, 6, 1, 0] rfl)
          exact L38 _ 0 true (by omega) (rfl) (Nat.lt_succ_self _) _ _ hP hD hS _ (lv_sub hl [2, 3, 4, 5, 6, 1, 0] rfl)
    exact L25 _ 0 (-1) 0 (by omega) (rfl) (rfl) (by omega) (Nat.lt_succ_self _) _ _ hP hD hS _ (lv_sub hl [3, 4, 2, 1, 0] rfl)
  · have c_7 : (wi w 0 1) = false := bI_0.mp c_7
    refine lv_aload_n zx zb dX12_rests_10 rfl (lv_at hl 0 rfl) ?_
    refine lv_iconst (v := nI 0) zx zb dX12_rests_11 (by decide) ?_
    refine lv_bipush (v := (-10)) zx zb dX12_rests_12 (by decide) ?_
    refine call_Vi (As := [.int (nI 0), .int (-10)]) (rest := []) XX cv_X12_49 (c_X12_refuses Γ l m M f 0 (-10) (by omega)) hP hD hS hA [0, 2] (by decide) rfl (fun _ => rfl) 0 0 rfl rfl rfl rfl hl.1 rfl ⟨⟨by decide, by decide⟩, by decide, by decide⟩ (Nat.le_of_ble_eq_true rfl) dX12_rests_14 (fun r_14 u H locs hw hP hD hS => ?_)
    obtain ⟨hw1, hw2⟩ := hw
    have hw1 := hw1.symm
    have hw2 := hw2.symm
    subst hw1
    subst hw2
    have hP : bP Γ [bMo Γ m M, bA Γ (m 1) 259 b, bA Γ (m 6) 3 (moRef M f 0)] H := hP
    have hD : bD AA [bMo Γ m M, bA Γ (m 1) 259 b, bA Γ (m 6) 3 (moRef M f 0)] := hD
    exact fin _ _ (-10) (moRef M f 0) 17 _ dX12_rests_17 (fun h => by cases h) ⟨(by simp [reR, c_7]), (by simp [moV, c_7])⟩ hP hD hS

set_option maxHeartbeats 4000000 in
set_option maxRecDepth 100000 in
theorem c_X12_shareCells (Γ : GG) (l : Launch) (m : Nat → Nat) (M : MoV) (b : Nat → Int32) (C : CoV) (tr : Nat → TrV) (Y : YrV) (pc : Nat) (P : Nat → YrV) (i : Nat) (j : Nat) (hr : Rel b C tr Y pc P) (hI : Inv C tr Y) (hi : i < C.2.2.2.2.2.2.1) (hj : j < C.2.2.2.2.2.2.1) : Ci Γ l yX12_shareCells cX12_shareCells 3 (some (.boolean)) 1 21 0 0 [.ref (m 0), .int (nI i), .int (nI j)] [bMo Γ m M, bA Γ (m 1) 259 b] (fun (r : Int32) (u : Unit) => r = bI (shC tr i j)) (fun (u : Unit) => [bMo Γ m M, bA Γ (m 1) 259 b]) := by
  refine Ci.of (Or.inr rfl) (by decide) (Nat.le_of_ble_eq_true rfl) ?_
  intro pp ee ss mm bb me cd AA QQ XX hnm hA hP hD fin ls hl
  obtain ⟨zx, zb, hml, hown, hts, hK⟩ := id XX
  have hS : va_S AA ss.heap ss.heap [] := va_S.rf
  have hl : lv_has ls 3 [(0, .ref (m 0)), (1, .int (nI i)), (2, .int (nI j))] := hl
  have htc := inv_tc hI
  have hdc := inv_dc hI
  have hn := inv_n hI
  refine lv_aload_n zx zb dX12_shareCells_0 rfl (lv_at hl 0 rfl) ?_
  refine g_get (v := .ref (m 1)) XX hP 0 0 rfl rfl rfl iwX12 0 (by decide) fl_X12_7 rfl dX12_shareCells_1 ?_
  refine lv_iload_n zx zb dX12_shareCells_4 rfl (lv_at hl 1 rfl) ?_
  refine lv_iconst (v := nI 1) zx zb dX12_shareCells_5 (by decide) ?_
  refine callR_Si (As := [.int (nI i), .int (nI 1)]) (rest := [.ref (m 1)]) XX cs_X12_96 (c_X12_of0 Γ l i 1 ) hP hD hS hA nil_mem nil_D rfl hl.1 rfl ⟨⟨by decide, by decide⟩, by decide, by decide⟩ (Nat.le_of_ble_eq_true rfl) dX12_shareCells_6 (fun r_6 H locs hw hP hS => ?_)
  have hw := hw.symm
  subst hw
  refine g_ialdN (i := 55 + 7 * i + 1) XX hP 1 0 rfl rfl (by omega) (by decide) dX12_shareCells_9 ?_
  refine g_top (y := (tr i).2.2.1) (Rel.t1 hr (by omega)) ?_
  refine lv_aload_n zx zb dX12_shareCells_10 rfl (lv_at hl 0 rfl) ?_
  refine g_get (v := .ref (m 1)) XX hP 0 0 rfl rfl rfl iwX12 0 (by decide) fl_X12_7 rfl dX12_shareCells_11 ?_
  refine lv_iload_n zx zb dX12_shareCells_14 rfl (lv_at hl 2 rfl) ?_
  refine lv_iconst (v := nI 2) zx zb dX12_shareCells_15 (by decide) ?_
  refine callR_Si (As := [.int (nI j), .int (nI 2)]) (rest := [.ref (m 1), .int ((tr i).2.2.1)]) XX cs_X12_96 (c_X12_of0 Γ l j 2 ) hP hD hS hA nil_mem nil_D rfl hl.1 rfl ⟨⟨by decide, by decide⟩, by decide, by decide⟩ (Nat.le_of_ble_eq_true rfl) dX12_shareCells_16 (fun r_16 H locs hw hP hS => ?_)
  have hw := hw.symm
  subst hw
  refine g_ialdN (i := 55 + 7 * j + 2) XX hP 1 0 rfl rfl (by omega) (by decide) dX12_shareCells_19 ?_
  refine g_top (y := (tr j).2.2.2.1) (Rel.t2 hr (by omega)) ?_
  refine lv_icmp_gt (tgt := 50) zx zb dX12_shareCells_20 (by decide) (fun c_20 => ?_) (fun c_20 => ?_)
  · have c_20 : ((tr j).2.2.2.1) < ((tr i).2.2.1) := c_20
    refine lv_iconst (v := nI 0) zx zb dX12_shareCells_50 (by decide) ?_
    exact fin _ _ (nI 0) () 51 _ dX12_shareCells_51 (fun _ => nar0) (by first | exact retT (by simp only [shC, c_20, decide_true, decide_false, Bool.not_true, Bool.not_false, Bool.false_and, Bool.and_false, Bool.and_true, Bool.true_and]) | exact retF (by simp only [shC, c_20, decide_true, decide_false, Bool.not_true, Bool.not_false, Bool.false_and, Bool.and_false, Bool.and_true, Bool.true_and])) hP hD hS
  · have c_20 : ¬ (((tr j).2.2.2.1) < ((tr i).2.2.1)) := c_20
    refine lv_aload_n zx zb dX12_shareCells_23 rfl (lv_at hl 0 rfl) ?_
    refine g_get (v := .ref (m 1)) XX hP 0 0 rfl rfl rfl iwX12 0 (by decide) fl_X12_7 rfl dX12_shareCells_24 ?_
    refine lv_iload_n zx zb dX12_shareCells_27 rfl (lv_at hl 2 rfl) ?_
    refine lv_iconst (v := nI 1) zx zb dX12_shareCells_28 (by decide) ?_
    refine callR_Si (As := [.int (nI j), .int (nI 1)]) (rest := [.ref (m 1)]) XX cs_X12_96 (c_X12_of0 Γ l j 1 ) hP hD hS hA nil_mem nil_D rfl hl.1 rfl ⟨⟨by decide, by decide⟩, by decide, by decide⟩ (Nat.le_of_ble_eq_true rfl) dX12_shareCells_29 (fun r_29 H locs hw hP hS => ?_)
    have hw := hw.symm
    subst hw
    refine g_ialdN (i := 55 + 7 * j + 1) XX hP 1 0 rfl rfl (by omega) (by decide) dX12_shareCells_32 ?_
    refine g_top (y := (tr j).2.2.1) (Rel.t1 hr (by omega)) ?_
    refine lv_aload_n zx zb dX12_shareCells_33 rfl (lv_at hl 0 rfl) ?_
    refine g_get (v := .ref (m 1)) XX hP 0 0 rfl rfl rfl iwX12 0 (by decide) fl_X12_7 rfl dX12_shareCells_34 ?_
    refine lv_iload_n zx zb dX12_shareCells_37 rfl (lv_at hl 1 rfl) ?_
    refine lv_iconst (v := nI 2) zx zb dX12_shareCells_38 (by decide) ?_
    refine callR_Si (As := [.int (nI i), .int (nI 2)]) (rest := [.ref (m 1), .int ((tr j).2.2.1)]) XX cs_X12_96 (c_X12_of0 Γ l i 2 ) hP hD hS hA nil_mem nil_D rfl hl.1 rfl ⟨⟨by decide, by decide⟩, by decide, by decide⟩ (Nat.le_of_ble_eq_true rfl) dX12_shareCells_39 (fun r_39 H locs hw hP hS => ?_)
    have hw := hw.symm
    subst hw
    refine g_ialdN (i := 55 + 7 * i + 2) XX hP 1 0 rfl rfl (by omega) (by decide) dX12_shareCells_42 ?_
    refine g_top (y := (tr i).2.2.2.1) (Rel.t2 hr (by omega)) ?_
    refine lv_icmp_gt (tgt := 50) zx zb dX12_shareCells_43 (by decide) (fun c_43 => ?_) (fun c_43 => ?_)
    · have c_43 : ((tr i).2.2.2.1) < ((tr j).2.2.1) := c_43
      refine lv_iconst (v := nI 0) zx zb dX12_shareCells_50 (by decide) ?_
      exact fin _ _ (nI 0) () 51 _ dX12_shareCells_51 (fun _ => nar0) (by first | exact retT (by simp only [shC, c_20, c_43, decide_true, decide_false, Bool.not_true, Bool.not_false, Bool.false_and, Bool.and_false, Bool.and_true, Bool.true_and]) | exact retF (by simp only [shC, c_20, c_43, decide_true, decide_false, Bool.not_true, Bool.not_false, Bool.false_and, Bool.and_false, Bool.and_true, Bool.true_and])) hP hD hS
    · have c_43 : ¬ (((tr i).2.2.2.1) < ((tr j).2.2.1)) := c_43
      refine lv_iconst (v := nI 1) zx zb dX12_shareCells_46 (by decide) ?_
      refine lv_goto (tgt := 51) zx zb dX12_shareCells_47 (by decide) ?_
      exact fin _ _ (nI 1) () 51 _ dX12_shareCells_51 (fun _ => nar1) (by first | exact retT (by simp only [shC, c_20, c_43, decide_true, decide_false, Bool.not_true, Bool.not_false, Bool.false_and, Bool.and_false, Bool.and_true, Bool.true_and]) | exact retF (by simp only [shC, c_20, c_43, decide_true, decide_false, Bool.not_true, Bool.not_false, Bool.false_and, Bool.and_false, Bool.and_true, Bool.true_and])) hP hD hS

set_option maxHeartbeats 4000000 in
set_option maxRecDepth 100000 in
theorem c_X12_shareYears (Γ : GG) (l : Launch) (f : Int32) (t : Int32) (g : Int32) (u1 : Int32)  : Ci Γ l yX12_shareYears cX12_shareYears 4 (some (.boolean)) 0 0 0 0 [.int f, .int t, .int g, .int u1] [] (fun (r : Int32) (u : Unit) => r = bI (shY f t g u1)) (fun (u : Unit) => []) := by
  refine Ci.of (Or.inr rfl) (by decide) (Nat.le_of_ble_eq_true rfl) ?_
  intro pp ee ss mm bb me cd AA QQ XX hnm hA hP hD fin ls hl
  obtain ⟨zx, zb, hml, hown, hts, hK⟩ := id XX
  have hS : va_S AA ss.heap ss.heap [] := va_S.rf
  have hl : lv_has ls 4 [(0, .int f), (1, .int t), (2, .int g), (3, .int u1)] := hl
  refine lv_iload_n zx zb dX12_shareYears_0 rfl (lv_at hl 0 rfl) ?_
  refine lv_iload_n zx zb dX12_shareYears_1 rfl (lv_at hl 1 rfl) ?_
  refine lv_icmp_ge (tgt := 24) zx zb dX12_shareYears_2 (by decide) (fun c_2 => ?_) (fun c_2 => ?_)
  · have c_2 : t ≤ f := c_2
    refine lv_iconst (v := nI 0) zx zb dX12_shareYears_24 (by decide) ?_
    exact fin _ _ (nI 0) () 25 _ dX12_shareYears_25 (fun _ => nar0) (by first | exact retT (by simp only [shY, c_2, decide_true, decide_false, Bool.not_true, Bool.not_false, Bool.false_and, Bool.and_false, Bool.and_true, Bool.true_and]) | exact retF (by simp only [shY, c_2, decide_true, decide_false, Bool.not_true, Bool.not_false, Bool.false_and, Bool.and_false, Bool.and_true, Bool.true_and])) hP hD hS
  · have c_2 : ¬ (t ≤ f) := c_2
    refine lv_iload_n zx zb dX12_shareYears_5 rfl (lv_at hl 2 rfl) ?_
    refine lv_iload_n zx zb dX12_shareYears_6 rfl (lv_at hl 3 rfl) ?_
    refine lv_icmp_ge (tgt := 24) zx zb dX12_shareYears_7 (by decide) (fun c_7 => ?_) (fun c_7 => ?_)
    · have c_7 : u1 ≤ g := c_7
      refine lv_iconst (v := nI 0) zx zb dX12_shareYears_24 (by decide) ?_
      exact fin _ _ (nI 0) () 25 _ dX12_shareYears_25 (fun _ => nar0) (by first | exact retT (by simp only [shY, c_2, c_7, decide_true, decide_false, Bool.not_true, Bool.not_false, Bool.false_and, Bool.and_false, Bool.and_true, Bool.true_and]) | exact retF (by simp only [shY, c_2, c_7, decide_true, decide_false, Bool.not_true, Bool.not_false, Bool.false_and, Bool.and_false, Bool.and_true, Bool.true_and])) hP hD hS
    · have c_7 : ¬ (u1 ≤ g) := c_7
      refine lv_iload_n zx zb dX12_shareYears_10 rfl (lv_at hl 0 rfl) ?_
      refine lv_iload_n zx zb dX12_shareYears_11 rfl (lv_at hl 3 rfl) ?_
      refine lv_icmp_ge (tgt := 24) zx zb dX12_shareYears_12 (by decide) (fun c_12 => ?_) (fun c_12 => ?_)
      · have c_12 : u1 ≤ f := c_12
        refine lv_iconst (v := nI 0) zx zb dX12_shareYears_24 (by decide) ?_
        exact fin _ _ (nI 0) () 25 _ dX12_shareYears_25 (fun _ => nar0) (by first | exact retT (by simp only [shY, c_2, c_7, c_12, decide_true, decide_false, Bool.not_true, Bool.not_false, Bool.false_and, Bool.and_false, Bool.and_true, Bool.true_and]) | exact retF (by simp only [shY, c_2, c_7, c_12, decide_true, decide_false, Bool.not_true, Bool.not_false, Bool.false_and, Bool.and_false, Bool.and_true, Bool.true_and])) hP hD hS
      · have c_12 : ¬ (u1 ≤ f) := c_12
        refine lv_iload_n zx zb dX12_shareYears_15 rfl (lv_at hl 2 rfl) ?_
        refine lv_iload_n zx zb dX12_shareYears_16 rfl (lv_at hl 1 rfl) ?_
        refine lv_icmp_ge (tgt := 24) zx zb dX12_shareYears_17 (by decide) (fun c_17 => ?_) (fun c_17 => ?_)
        · have c_17 : t ≤ g := c_17
          refine lv_iconst (v := nI 0) zx zb dX12_shareYears_24 (by decide) ?_
          exact fin _ _ (nI 0) () 25 _ dX12_shareYears_25 (fun _ => nar0) (by first | exact retT (by simp only [shY, c_2, c_7, c_12, c_17, decide_true, decide_false, Bool.not_true, Bool.not_false, Bool.false_and, Bool.and_false, Bool.and_true, Bool.true_and]) | exact retF (by simp only [shY, c_2, c_7, c_12, c_17, decide_true, decide_false, Bool.not_true, Bool.not_false, Bool.false_and, Bool.and_false, Bool.and_true, Bool.true_and])) hP hD hS
        · have c_17 : ¬ (t ≤ g) := c_17
          refine lv_iconst (v := nI 1) zx zb dX12_shareYears_20 (by decide) ?_
          refine lv_goto (tgt := 25) zx zb dX12_shareYears_21 (by decide) ?_
          exact fin _ _ (nI 1) () 25 _ dX12_shareYears_25 (fun _ => nar1) (by first | exact retT (by simp only [shY, c_2, c_7, c_12, c_17, decide_true, decide_false, Bool.not_true, Bool.not_false, Bool.false_and, Bool.and_false, Bool.and_true, Bool.true_and]) | exact retF (by simp only [shY, c_2, c_7, c_12, c_17, decide_true, decide_false, Bool.not_true, Bool.not_false, Bool.false_and, Bool.and_false, Bool.and_true, Bool.true_and])) hP hD hS

set_option maxHeartbeats 4000000 in
set_option maxRecDepth 100000 in
theorem c_X12_clashes (Γ : GG) (l : Launch) (m : Nat → Nat) (M : MoV) (b : Nat → Int32) (C : CoV) (tr : Nat → TrV) (Y : YrV) (pc : Nat) (P : Nat → YrV) (f : Nat → Int32) (w : Int32) (hr : Rel b C tr Y pc P) (hI : Inv C tr Y) : Ci Γ l yX12_clashes cX12_clashes 6 (some (.int)) 2 43 0 0 [.ref (m 0), .int w] [bMo Γ m M, bA Γ (m 1) 259 b, bA Γ (m 6) 3 f] (fun (r : Int32) (u : Nat → Int32) => r = clR tr (coTc C) w ∧ u = moV M f (decide (-1 ≤ w))) (fun (u : Nat → Int32) => [bMo Γ m M, bA Γ (m 1) 259 b, bA Γ (m 6) 3 u]) := by
  refine Ci.of (Or.inl rfl) (by decide) (Nat.le_of_ble_eq_true rfl) ?_
  intro pp ee ss mm bb me cd AA QQ XX hnm hA hP hD fin ls hl
  obtain ⟨zx, zb, hml, hown, hts, hK⟩ := id XX
  have hS : va_S AA ss.heap ss.heap [] := va_S.rf
  have hl : lv_has ls 6 [(0, .ref (m 0)), (1, .int w)] := hl
  have htc := inv_tc hI
  have hdc := inv_dc hI
  have hn := inv_n hI
  refine lv_iload_n zx zb dX12_clashes_0 rfl (lv_at hl 1 rfl) ?_
  refine lv_iconst (v := (-1)) zx zb dX12_clashes_1 (by decide) ?_
  refine lv_icmp_ge (tgt := 13) zx zb dX12_clashes_2 (by decide) (fun c_2 => ?_) (fun c_2 => ?_)
  · have c_2 : (-1) ≤ w := c_2
    refine lv_iconst (v := nI 0) zx zb dX12_clashes_13 (by decide) ?_
    refine lv_istore_n (lv' := [(2, .int (nI 0)), (0, .ref (m 0)), (1, .int w)]) zx zb dX12_clashes_14 rfl hl (by decide) rfl (fun ls hl => ?_)
    refine lv_bipush (v := (-5)) zx zb dX12_clashes_15 (by decide) ?_
    refine lv_istore_n (lv' := [(3, .int (-5)), (2, .int (nI 0)), (0, .ref (m 0)), (1, .int w)]) zx zb dX12_clashes_17 rfl hl (by decide) rfl (fun ls hl => ?_)
    refine lv_iconst (v := nI 0) zx zb dX12_clashes_18 (by decide) ?_
    refine lv_istore (lv' := [(4, .int (nI 0)), (3, .int (-5)), (2, .int (nI 0)), (0, .ref (m 0)), (1, .int w)]) zx zb dX12_clashes_19 hl (by decide) rfl (fun ls hl => ?_)
    have L21 : ∀ (nn : Nat) (a : Nat) (n : Nat) (h0 : Int32), (a ≤ C.2.2.2.2.2.2.1) → (n ≤ 6 * a) → (clG w (clOut tr w (coTc C) a) n h0) → C.2.2.2.2.2.2.1 - a < nn → ∀ (H : Heap) (locs : List Loc), bP Γ [bMo Γ m M, bA Γ (m 1) 259 b, bA Γ (m 6) 3 f] H → bD AA [bMo Γ m M, bA Γ (m 1) 259 b, bA Γ (m 6) 3 f] → va_S AA ss.heap H locs → ∀ (ls : Array Slot), lv_has ls 6 [(0, .ref (m 0)), (1, .int w), (2, .int (nI n)), (3, .int h0), (4, .int (nI a))] → W pp l ee { frames := 2, cells := 0, slots := 0, locals := 43 } ss mm [.ref (m 0), .int w].toArray bb me cd H locs 0 0 QQ (F0 mm 21 ls []) := by
      intro nn
      induction nn with
      | zero => intro a n h0 ha hq hg hm; exact absurd hm (Nat.not_lt_zero _)
      | succ nn ih21 =>
        intro a n h0 ha hq hg hm21 H locs hP hD hS ls hl
        refine lv_iload zx zb dX12_clashes_21 (lv_at hl 4 rfl) ?_
        refine lv_aload_n zx zb dX12_clashes_23 rfl (lv_at hl 0 rfl) ?_
        refine g_get (v := .ref (m 1)) XX hP 0 0 rfl rfl rfl iwX12 0 (by decide) fl_X12_7 rfl dX12_clashes_24 ?_
        refine lv_iconst (v := nI 4) zx zb dX12_clashes_27 (by decide) ?_
        refine g_ialdN (i := 4) XX hP 1 0 rfl rfl (by omega) (by decide) dX12_clashes_28 ?_
        refine g_top (y := nI (C.2.2.2.2.2.2.1)) (Rel.tc hr) ?_
        refine lv_icmp_ge (tgt := 143) zx zb dX12_clashes_29 (by decide) (fun c_29 => ?_) (fun c_29 => ?_)
        · have c_29 : C.2.2.2.2.2.2.1 ≤ a := (nI_leI (a := C.2.2.2.2.2.2.1) (b := a) (by omega) (by omega)).mp c_29
          refine lv_iload_n zx zb dX12_clashes_143 rfl (lv_at hl 1 rfl) ?_
          refine lv_iconst (v := (-1)) zx zb dX12_clashes_144 (by decide) ?_
          refine lv_icmp_ne (tgt := 152) zx zb dX12_clashes_145 (by decide) (fun c_145 => ?_) (fun c_145 => ?_)
          · have c_145 : ¬ (w = (-1)) := c_145
            refine lv_iload_n zx zb dX12_clashes_152 rfl (lv_at hl 3 rfl) ?_
            exact fin _ _ h0 f 153 _ dX12_clashes_153 (fun h => by cases h) ⟨(by have e : a = C.2.2.2.2.2.2.1 := (by omega); subst e; rw [clG_end (Int32.not_lt.mpr c_2) hg]; first | rw [if_pos c_145] | rw [if_neg c_145]), (by unfold moV; rw [decide_eq_true c_2]; rfl)⟩ hP hD hS
          · have c_145 : w = (-1) := c_145
            refine lv_iload_n zx zb dX12_clashes_148 rfl (lv_at hl 2 rfl) ?_
            refine lv_goto (tgt := 153) zx zb dX12_clashes_149 (by decide) ?_
            exact fin _ _ (nI n) f 153 _ dX12_clashes_153 (fun h => by cases h) ⟨(by have e : a = C.2.2.2.2.2.2.1 := (by omega); subst e; rw [clG_end (Int32.not_lt.mpr c_2) hg]; first | rw [if_pos c_145] | rw [if_neg c_145]), (by unfold moV; rw [decide_eq_true c_2]; rfl)⟩ hP hD hS
        · have c_29 : ¬ (C.2.2.2.2.2.2.1 ≤ a) := fun h => c_29 ((nI_leI (a := C.2.2.2.2.2.2.1) (b := a) (by omega) (by omega)).mpr h)
          refine lv_iload zx zb dX12_clashes_32 (lv_at hl 4 rfl) ?_
          refine lv_iconst (v := nI 1) zx zb dX12_clashes_34 (by decide) ?_
          refine lv_iadd zx zb dX12_clashes_35 ?_
          refine g_top (y := nI (a + 1)) (nI_add a 1) ?_
          refine lv_istore (lv' := [(5, .int (nI (a + 1))), (0, .ref (m 0)), (1, .int w), (2, .int (nI n)), (3, .int h0), (4, .int (nI a))]) zx zb dX12_clashes_36 hl (by decide) rfl (fun ls hl => ?_)
          have L38 : ∀ (nn : Nat) (b0 : Nat) (n : Nat) (h0 : Int32), (a + 1 ≤ b0 ∧ b0 ≤ C.2.2.2.2.2.2.1) → (n ≤ 6 * a + b0) → (clG w (clIn tr w a (clOut tr w (coTc C) a) (b0 - (a + 1))) n h0) → C.2.2.2.2.2.2.1 - b0 < nn → ∀ (H : Heap) (locs : List Loc), bP Γ [bMo Γ m M, bA Γ (m 1) 259 b, bA Γ (m 6) 3 f] H → bD AA [bMo Γ m M, bA Γ (m 1) 259 b, bA Γ (m 6) 3 f] → va_S AA ss.heap H locs → ∀ (ls : Array Slot), lv_has ls 6 [(0, .ref (m 0)), (1, .int w), (2, .int (nI n)), (3, .int h0), (4, .int (nI a)), (5, .int (nI b0))] → W pp l ee { frames := 2, cells := 0, slots := 0, locals := 43 } ss mm [.ref (m 0), .int w].toArray bb me cd H locs 0 0 QQ (F0 mm 38 ls []) := by
            intro nn
            induction nn with
            | zero => intro b0 n h0 hb hq hg hm; exact absurd hm (Nat.not_lt_zero _)
            | succ nn ih38 =>
              intro b0 n h0 hb hq hg hm38 H locs hP hD hS ls hl
              refine lv_iload zx zb dX12_clashes_38 (lv_at hl 5 rfl) ?_
              refine lv_aload_n zx zb dX12_clashes_40 rfl (lv_at hl 0 rfl) ?_
              refine g_get (v := .ref (m 1)) XX hP 0 0 rfl rfl rfl iwX12 0 (by decide) fl_X12_7 rfl dX12_clashes_41 ?_
              refine lv_iconst (v := nI 4) zx zb dX12_clashes_44 (by decide) ?_
              refine g_ialdN (i := 4) XX hP 1 0 rfl rfl (by omega) (by decide) dX12_clashes_45 ?_
              refine g_top (y := nI (C.2.2.2.2.2.2.1)) (Rel.tc hr) ?_
              refine lv_icmp_ge (tgt := 137) zx zb dX12_clashes_46 (by decide) (fun c_46 => ?_) (fun c_46 => ?_)
              · have c_46 : C.2.2.2.2.2.2.1 ≤ b0 := (nI_leI (a := C.2.2.2.2.2.2.1) (b := b0) (by omega) (by omega)).mp c_46
                refine lv_iinc (v := nI (a + 1)) (lv' := [(4, .int (nI (a + 1))), (0, .ref (m 0)), (1, .int w), (2, .int (nI n)), (3, .int h0), (5, .int (nI b0))]) zx zb dX12_clashes_137 hl (k := 4) rfl (nI_inc _ 1) (by decide) rfl (fun ls hl => ?_)
                refine lv_goto (tgt := 21) zx zb dX12_clashes_140 (by decide) ?_
                exact ih21 (a + 1) n h0 (by omega) (by omega) (by rw [clOut, show coTc C - (a + 1) = b0 - (a + 1) by show C.2.2.2.2.2.2.1 - (a + 1) = b0 - (a + 1); omega]; exact hg) (by omega) _ _ hP hD hS _ (lv_sub hl [1, 2, 3, 4, 0] rfl)
              · have c_46 : ¬ (C.2.2.2.2.2.2.1 ≤ b0) := fun h => c_46 ((nI_leI (a := C.2.2.2.2.2.2.1) (b := b0) (by omega) (by omega)).mpr h)
                refine lv_aload_n zx zb dX12_clashes_49 rfl (lv_at hl 0 rfl) ?_
                refine lv_iload zx zb dX12_clashes_50 (lv_at hl 4 rfl) ?_
                refine lv_iload zx zb dX12_clashes_52 (lv_at hl 5 rfl) ?_
                refine call_Vi (As := [.int (nI a), .int (nI b0)]) (rest := []) XX cv_X12_257 (c_X12_shareCells Γ l m M b C tr Y pc P a b0 (hr) (hI) (by omega) (by omega)) hP hD hS hA [0, 1] (by decide) rfl (fun _ => rfl) 0 0 rfl rfl rfl rfl hl.1 rfl ⟨⟨by decide, by decide⟩, by decide, by decide⟩ (Nat.le_of_ble_eq_true rfl) dX12_clashes_54 (fun r_54 u H locs hw hP hD hS => ?_)
                have hw := hw.symm
                subst hw
                have hP : bP Γ [bMo Γ m M, bA Γ (m 1) 259 b, bA Γ (m 6) 3 f] H := hP
                have hD : bD AA [bMo Γ m M, bA Γ (m 1) 259 b, bA Γ (m 6) 3 f] := hD
                refine lv_if_eq (tgt := 131) zx zb dX12_clashes_57 (by decide) (fun c_57 => ?_) (fun c_57 => ?_)
                · have c_57 : (shC tr a b0) = false := bI_0.mp c_57
                  refine lv_iinc (v := nI (b0 + 1)) (lv' := [(5, .int (nI (b0 + 1))), (0, .ref (m 0)), (1, .int w), (2, .int (nI n)), (3, .int h0), (4, .int (nI a))]) zx zb dX12_clashes_131 hl (k := 5) rfl (nI_inc _ 1) (by decide) rfl (fun ls hl => ?_)
                  refine lv_goto (tgt := 38) zx zb dX12_clashes_134 (by decide) ?_
                  exact ih38 (b0 + 1) n h0 (by omega) (by omega) (by first | exact clI_no hb.1 hg ((clP_eq hI (show a < C.2.2.2.2.2.2.1 by omega) (show b0 < C.2.2.2.2.2.2.1 by omega)).trans (and_f1 c_57)) | exact clI_no hb.1 hg ((clP_eq hI (show a < C.2.2.2.2.2.2.1 by omega) (show b0 < C.2.2.2.2.2.2.1 by omega)).trans (and_f3 c_107)) | exact clI_hit (by omega) hb.1 hg ((clP_eq hI (show a < C.2.2.2.2.2.2.1 by omega) (show b0 < C.2.2.2.2.2.2.1 by omega)).trans (by rw [c_57, c_107]; rfl)) c_112 | exact clI_ys (by omega) hb.1 hg ((clP_eq hI (show a < C.2.2.2.2.2.2.1 by omega) (show b0 < C.2.2.2.2.2.2.1 by omega)).trans (by rw [c_57, c_107]; rfl)) c_112) (by omega) _ _ hP hD hS _ (lv_sub hl [1, 2, 3, 4, 5, 0] rfl)
                · have c_57 : (shC tr a b0) = true := bI_ne c_57
                  refine lv_aload_n zx zb dX12_clashes_60 rfl (lv_at hl 0 rfl) ?_
                  refine g_get (v := .ref (m 1)) XX hP 0 0 rfl rfl rfl iwX12 0 (by decide) fl_X12_7 rfl dX12_clashes_61 ?_
                  refine lv_iload zx zb dX12_clashes_64 (lv_at hl 4 rfl) ?_
                  refine lv_iconst (v := nI 3) zx zb dX12_clashes_66 (by decide) ?_
                  refine callR_Si (As := [.int (nI a), .int (nI 3)]) (rest := [.ref (m 1)]) XX cs_X12_96 (c_X12_of0 Γ l a 3 ) hP hD hS hA nil_mem nil_D rfl hl.1 rfl ⟨⟨by decide, by decide⟩, by decide, by decide⟩ (Nat.le_of_ble_eq_true rfl) dX12_clashes_67 (fun r_67 H locs hw hP hS => ?_)
                  have hw := hw.symm
                  subst hw
                  refine g_ialdN (i := 55 + 7 * a + 3) XX hP 1 0 rfl rfl (by omega) (by decide) dX12_clashes_70 ?_
                  refine g_top (y := (tr a).2.2.2.2.1) (Rel.t3 hr (by omega)) ?_
                  refine lv_aload_n zx zb dX12_clashes_71 rfl (lv_at hl 0 rfl) ?_
                  refine g_get (v := .ref (m 1)) XX hP 0 0 rfl rfl rfl iwX12 0 (by decide) fl_X12_7 rfl dX12_clashes_72 ?_
                  refine lv_iload zx zb dX12_clashes_75 (lv_at hl 4 rfl) ?_
                  refine lv_iconst (v := nI 4) zx zb dX12_clashes_77 (by decide) ?_
                  refine callR_Si (As := [.int (nI a), .int (nI 4)]) (rest := [.ref (m 1), .int ((tr a).2.2.2.2.1)]) XX cs_X12_96 (c_X12_of0 Γ l a 4 ) hP hD hS hA nil_mem nil_D rfl hl.1 rfl ⟨⟨by decide, by decide⟩, by decide, by decide⟩ (Nat.le_of_ble_eq_true rfl) dX12_clashes_78 (fun r_78 H locs hw hP hS => ?_)
                  have hw := hw.symm
                  subst hw
                  refine g_ialdN (i := 55 + 7 * a + 4) XX hP 1 0 rfl rfl (by omega) (by decide) dX12_clashes_81 ?_
                  refine g_top (y := (tr a).2.2.2.2.2.1) (Rel.t4 hr (by omega)) ?_
                  refine lv_aload_n zx zb dX12_clashes_82 rfl (lv_at hl 0 rfl) ?_
                  refine g_get (v := .ref (m 1)) XX hP 0 0 rfl rfl rfl iwX12 0 (by decide) fl_X12_7 rfl dX12_clashes_83 ?_
                  refine lv_iload zx zb dX12_clashes_86 (lv_at hl 5 rfl) ?_
                  refine lv_iconst (v := nI 3) zx zb dX12_clashes_88 (by decide) ?_
                  refine callR_Si (As := [.int (nI b0), .int (nI 3)]) (rest := [.ref (m 1), .int ((tr a).2.2.2.2.2.1), .int ((tr a).2.2.2.2.1)]) XX cs_X12_96 (c_X12_of0 Γ l b0 3 ) hP hD hS hA nil_mem nil_D rfl hl.1 rfl ⟨⟨by decide, by decide⟩, by decide, by decide⟩ (Nat.le_of_ble_eq_true rfl) dX12_clashes_89 (fun r_89 H locs hw hP hS => ?_)
                  have hw := hw.symm
                  subst hw
                  refine g_ialdN (i := 55 + 7 * b0 + 3) XX hP 1 0 rfl rfl (by omega) (by decide) dX12_clashes_92 ?_
                  refine g_top (y := (tr b0).2.2.2.2.1) (Rel.t3 hr (by omega)) ?_
                  refine lv_aload_n zx zb dX12_clashes_93 rfl (lv_at hl 0 rfl) ?_
                  refine g_get (v := .ref (m 1)) XX hP 0 0 rfl rfl rfl iwX12 0 (by decide) fl_X12_7 rfl dX12_clashes_94 ?_
                  refine lv_iload zx zb dX12_clashes_97 (lv_at hl 5 rfl) ?_
                  refine lv_iconst (v := nI 4) zx zb dX12_clashes_99 (by decide) ?_
                  refine callR_Si (As := [.int (nI b0), .int (nI 4)]) (rest := [.ref (m 1), .int ((tr b0).2.2.2.2.1), .int ((tr a).2.2.2.2.2.1), .int ((tr a).2.2.2.2.1)]) XX cs_X12_96 (c_X12_of0 Γ l b0 4 ) hP hD hS hA nil_mem nil_D rfl hl.1 rfl ⟨⟨by decide, by decide⟩, by decide, by decide⟩ (Nat.le_of_ble_eq_true rfl) dX12_clashes_100 (fun r_100 H locs hw hP hS => ?_)
                  have hw := hw.symm
                  subst hw
                  refine g_ialdN (i := 55 + 7 * b0 + 4) XX hP 1 0 rfl rfl (by omega) (by decide) dX12_clashes_103 ?_
                  refine g_top (y := (tr b0).2.2.2.2.2.1) (Rel.t4 hr (by omega)) ?_
                  refine callR_Si (As := [.int ((tr a).2.2.2.2.1), .int ((tr a).2.2.2.2.2.1), .int ((tr b0).2.2.2.2.1), .int ((tr b0).2.2.2.2.2.1)]) (rest := []) XX cs_X12_260 (c_X12_shareYears Γ l ((tr a).2.2.2.2.1) ((tr a).2.2.2.2.2.1) ((tr b0).2.2.2.2.1) ((tr b0).2.2.2.2.2.1) ) hP hD hS hA nil_mem nil_D rfl hl.1 rfl ⟨⟨by decide, by decide⟩, by decide, by decide⟩ (Nat.le_of_ble_eq_true rfl) dX12_clashes_104 (fun r_104 H locs hw hP hS => ?_)
                  have hw := hw.symm
                  subst hw
                  refine lv_if_eq (tgt := 131) zx zb dX12_clashes_107 (by decide) (fun c_107 => ?_) (fun c_107 => ?_)
                  · have c_107 : (shY ((tr a).2.2.2.2.1) ((tr a).2.2.2.2.2.1) ((tr b0).2.2.2.2.1) ((tr b0).2.2.2.2.2.1)) = false := bI_0.mp c_107
                    refine lv_iinc (v := nI (b0 + 1)) (lv' := [(5, .int (nI (b0 + 1))), (0, .ref (m 0)), (1, .int w), (2, .int (nI n)), (3, .int h0), (4, .int (nI a))]) zx zb dX12_clashes_131 hl (k := 5) rfl (nI_inc _ 1) (by decide) rfl (fun ls hl => ?_)
                    refine lv_goto (tgt := 38) zx zb dX12_clashes_134 (by decide) ?_
                    exact ih38 (b0 + 1) n h0 (by omega) (by omega) (by first | exact clI_no hb.1 hg ((clP_eq hI (show a < C.2.2.2.2.2.2.1 by omega) (show b0 < C.2.2.2.2.2.2.1 by omega)).trans (and_f1 c_57)) | exact clI_no hb.1 hg ((clP_eq hI (show a < C.2.2.2.2.2.2.1 by omega) (show b0 < C.2.2.2.2.2.2.1 by omega)).trans (and_f3 c_107)) | exact clI_hit (by omega) hb.1 hg ((clP_eq hI (show a < C.2.2.2.2.2.2.1 by omega) (show b0 < C.2.2.2.2.2.2.1 by omega)).trans (by rw [c_57, c_107]; rfl)) c_112 | exact clI_ys (by omega) hb.1 hg ((clP_eq hI (show a < C.2.2.2.2.2.2.1 by omega) (show b0 < C.2.2.2.2.2.2.1 by omega)).trans (by rw [c_57, c_107]; rfl)) c_112) (by omega) _ _ hP hD hS _ (lv_sub hl [1, 2, 3, 4, 5, 0] rfl)
                  · have c_107 : (shY ((tr a).2.2.2.2.1) ((tr a).2.2.2.2.2.1) ((tr b0).2.2.2.2.1) ((tr b0).2.2.2.2.2.1)) = true := bI_ne c_107
                    refine lv_iload_n zx zb dX12_clashes_110 rfl (lv_at hl 2 rfl) ?_
                    refine lv_iload_n zx zb dX12_clashes_111 rfl (lv_at hl 1 rfl) ?_
                    refine lv_icmp_ne (tgt := 126) zx zb dX12_clashes_112 (by decide) (fun c_112 => ?_) (fun c_112 => ?_)
                    · have c_112 : ¬ ((nI n) = w) := c_112
                      refine lv_iload_n zx zb dX12_clashes_126 rfl (lv_at hl 3 rfl) ?_
                      refine lv_istore_n (lv' := [(3, .int h0), (0, .ref (m 0)), (1, .int w), (2, .int (nI n)), (4, .int (nI a)), (5, .int (nI b0))]) zx zb dX12_clashes_127 rfl hl (by decide) rfl (fun ls hl => ?_)
                      refine lv_iinc (v := nI (n + 1)) (lv' := [(2, .int (nI (n + 1))), (3, .int h0), (0, .ref (m 0)), (1, .int w), (4, .int (nI a)), (5, .int (nI b0))]) zx zb dX12_clashes_128 hl (k := 3) rfl (nI_inc _ 1) (by decide) rfl (fun ls hl => ?_)
                      refine lv_iinc (v := nI (b0 + 1)) (lv' := [(5, .int (nI (b0 + 1))), (2, .int (nI (n + 1))), (3, .int h0), (0, .ref (m 0)), (1, .int w), (4, .int (nI a))]) zx zb dX12_clashes_131 hl (k := 5) rfl (nI_inc _ 1) (by decide) rfl (fun ls hl => ?_)
                      refine lv_goto (tgt := 38) zx zb dX12_clashes_134 (by decide) ?_
                      exact ih38 (b0 + 1) (n + 1) h0 (by omega) (by omega) (by first | exact clI_no hb.1 hg ((clP_eq hI (show a < C.2.2.2.2.2.2.1 by omega) (show b0 < C.2.2.2.2.2.2.1 by omega)).trans (and_f1 c_57)) | exact clI_no hb.1 hg ((clP_eq hI (show a < C.2.2.2.2.2.2.1 by omega) (show b0 < C.2.2.2.2.2.2.1 by omega)).trans (and_f3 c_107)) | exact clI_hit (by omega) hb.1 hg ((clP_eq hI (show a < C.2.2.2.2.2.2.1 by omega) (show b0 < C.2.2.2.2.2.2.1 by omega)).trans (by rw [c_57, c_107]; rfl)) c_112 | exact clI_ys (by omega) hb.1 hg ((clP_eq hI (show a < C.2.2.2.2.2.2.1 by omega) (show b0 < C.2.2.2.2.2.2.1 by omega)).trans (by rw [c_57, c_107]; rfl)) c_112) (by omega) _ _ hP hD hS _ (lv_sub hl [3, 4, 1, 2, 5, 0] rfl)
                    · have c_112 : (nI n) = w := c_112
                      refine lv_bipush (v := nI 10) zx zb dX12_clashes_115 (by decide) ?_
                      refine lv_iload zx zb dX12_clashes_117 (lv_at hl 4 rfl) ?_
                      refine lv_imul zx zb dX12_clashes_119 ?_
                      refine g_top (y := nI (10 * a)) (pk_mul 10 a) ?_
                      refine lv_iload zx zb dX12_clashes_120 (lv_at hl 5 rfl) ?_
                      refine lv_iadd zx zb dX12_clashes_122 ?_
                      refine g_top (y := nI (10 * a + b0)) (nI_add (10 * a) b0) ?_
                      refine lv_goto (tgt := 127) zx zb dX12_clashes_123 (by decide) ?_
                      refine lv_istore_n (lv' := [(3, .int (nI (10 * a + b0))), (0, .ref (m 0)), (1, .int w), (2, .int (nI n)), (4, .int (nI a)), (5, .int (nI b0))]) zx zb dX12_clashes_127 rfl hl (by decide) rfl (fun ls hl => ?_)
                      refine lv_iinc (v := nI (n + 1)) (lv' := [(2, .int (nI (n + 1))), (3, .int (nI (10 * a + b0))), (0, .ref (m 0)), (1, .int w), (4, .int (nI a)), (5, .int (nI b0))]) zx zb dX12_clashes_128 hl (k := 3) rfl (nI_inc _ 1) (by decide) rfl (fun ls hl => ?_)
                      refine lv_iinc (v := nI (b0 + 1)) (lv' := [(5, .int (nI (b0 + 1))), (2, .int (nI (n + 1))), (3, .int (nI (10 * a + b0))), (0, .ref (m 0)), (1, .int w), (4, .int (nI a))]) zx zb dX12_clashes_131 hl (k := 5) rfl (nI_inc _ 1) (by decide) rfl (fun ls hl => ?_)
                      refine lv_goto (tgt := 38) zx zb dX12_clashes_134 (by decide) ?_
                      exact ih38 (b0 + 1) (n + 1) (nI (10 * a + b0)) (by omega) (by omega) (by first | exact clI_no hb.1 hg ((clP_eq hI (show a < C.2.2.2.2.2.2.1 by omega) (show b0 < C.2.2.2.2.2.2.1 by omega)).trans (and_f1 c_57)) | exact clI_no hb.1 hg ((clP_eq hI (show a < C.2.2.2.2.2.2.1 by omega) (show b0 < C.2.2.2.2.2.2.1 by omega)).trans (and_f3 c_107)) | exact clI_hit (by omega) hb.1 hg ((clP_eq hI (show a < C.2.2.2.2.2.2.1 by omega) (show b0 < C.2.2.2.2.2.2.1 by omega)).trans (by rw [c_57, c_107]; rfl)) c_112 | exact clI_ys (by omega) hb.1 hg ((clP_eq hI (show a < C.2.2.2.2.2.2.1 by omega) (show b0 < C.2.2.2.2.2.2.1 by omega)).trans (by rw [c_57, c_107]; rfl)) c_112) (by omega) _ _ hP hD hS _ (lv_sub hl [3, 4, 1, 2, 5, 0] rfl)
          exact L38 _ (a + 1) n h0 (by omega) (by omega) (by rw [Nat.sub_self]; exact hg) (Nat.lt_succ_self _) _ _ hP hD hS _ (lv_sub hl [1, 2, 3, 4, 5, 0] rfl)
    exact L21 _ 0 0 (-5) (by omega) (by omega) (⟨rfl, rfl, fun q => absurd rfl q⟩) (Nat.lt_succ_self _) _ _ hP hD hS _ (lv_sub hl [3, 4, 2, 1, 0] rfl)
  · have c_2 : ¬ ((-1) ≤ w) := c_2
    refine lv_aload_n zx zb dX12_clashes_5 rfl (lv_at hl 0 rfl) ?_
    refine lv_iconst (v := nI 0) zx zb dX12_clashes_6 (by decide) ?_
    refine lv_bipush (v := (-10)) zx zb dX12_clashes_7 (by decide) ?_
    refine call_Vi (As := [.int (nI 0), .int (-10)]) (rest := []) XX cv_X12_49 (c_X12_refuses Γ l m M f 0 (-10) (by omega)) hP hD hS hA [0, 2] (by decide) rfl (fun _ => rfl) 0 0 rfl rfl rfl rfl hl.1 rfl ⟨⟨by decide, by decide⟩, by decide, by decide⟩ (Nat.le_of_ble_eq_true rfl) dX12_clashes_9 (fun r_9 u H locs hw hP hD hS => ?_)
    obtain ⟨hw1, hw2⟩ := hw
    have hw1 := hw1.symm
    have hw2 := hw2.symm
    subst hw1
    subst hw2
    have hP : bP Γ [bMo Γ m M, bA Γ (m 1) 259 b, bA Γ (m 6) 3 (moRef M f 0)] H := hP
    have hD : bD AA [bMo Γ m M, bA Γ (m 1) 259 b, bA Γ (m 6) 3 (moRef M f 0)] := hD
    exact fin _ _ (-10) (moRef M f 0) 12 _ dX12_clashes_12 (fun h => by cases h) ⟨(by unfold clR; rw [if_pos (Int32.not_le.mp c_2)]), (by unfold moV; rw [decide_eq_false c_2]; rfl)⟩ hP hD hS

set_option maxHeartbeats 4000000 in
set_option maxRecDepth 100000 in
theorem c_X12_bits (Γ : GG) (l : Launch) (q : Int32)  : Ci Γ l yX12_bits cX12_bits 3 (some (.int)) 0 0 0 0 [.int q] [] (fun (r : Int32) (u : Unit) => r = bitsN q 8) (fun (u : Unit) => []) := by
  refine Ci.of (Or.inl rfl) (by decide) (Nat.le_of_ble_eq_true rfl) ?_
  intro pp ee ss mm bb me cd AA QQ XX hnm hA hP hD fin ls hl
  obtain ⟨zx, zb, hml, hown, hts, hK⟩ := id XX
  have hS : va_S AA ss.heap ss.heap [] := va_S.rf
  have hl : lv_has ls 3 [(0, .int q)] := hl
  refine lv_iconst (v := nI 0) zx zb dX12_bits_0 (by decide) ?_
  refine lv_istore_n (lv' := [(1, .int (nI 0)), (0, .int q)]) zx zb dX12_bits_1 rfl hl (by decide) rfl (fun ls hl => ?_)
  refine lv_iconst (v := nI 0) zx zb dX12_bits_2 (by decide) ?_
  refine lv_istore_n (lv' := [(2, .int (nI 0)), (1, .int (nI 0)), (0, .int q)]) zx zb dX12_bits_3 rfl hl (by decide) rfl (fun ls hl => ?_)
  have L4 : ∀ (nn : Nat) (i : Nat) (a : Int32), (i ≤ 8) → (a = bitsN q i) → 8 - i < nn → ∀ (H : Heap) (locs : List Loc), bP Γ [] H → bD AA [] → va_S AA ss.heap H locs → ∀ (ls : Array Slot), lv_has ls 3 [(0, .int q), (1, .int a), (2, .int (nI i))] → W pp l ee { frames := 0, cells := 0, slots := 0, locals := 0 } ss mm [.int q].toArray bb me cd H locs 0 0 QQ (F0 mm 4 ls []) := by
    intro nn
    induction nn with
    | zero => intro i a hi ha hm; exact absurd hm (Nat.not_lt_zero _)
    | succ nn ih4 =>
      intro i a hi ha hm4 H locs hP hD hS ls hl
      refine lv_iload_n zx zb dX12_bits_4 rfl (lv_at hl 2 rfl) ?_
      refine lv_bipush (v := nI 8) zx zb dX12_bits_5 (by decide) ?_
      refine lv_icmp_ge (tgt := 24) zx zb dX12_bits_7 (by decide) (fun c_7 => ?_) (fun c_7 => ?_)
      · have c_7 : 8 ≤ i := (nI_leI (a := 8) (b := i) (by omega) (by omega)).mp c_7
        refine lv_iload_n zx zb dX12_bits_24 rfl (lv_at hl 1 rfl) ?_
        exact fin _ _ a () 25 _ dX12_bits_25 (fun h => by cases h) (by have e : i = 8 := (by omega); subst e; exact ha) hP hD hS
      · have c_7 : ¬ (8 ≤ i) := fun h => c_7 ((nI_leI (a := 8) (b := i) (by omega) (by omega)).mpr h)
        refine lv_iload_n zx zb dX12_bits_10 rfl (lv_at hl 1 rfl) ?_
        refine lv_iload_n zx zb dX12_bits_11 rfl (lv_at hl 0 rfl) ?_
        refine lv_iload_n zx zb dX12_bits_12 rfl (lv_at hl 2 rfl) ?_
        refine lv_ishr zx zb dX12_bits_13 ?_
        refine g_top (y := q >>> (nI i)) (sh31r _ (by omega)) ?_
        refine lv_iconst (v := nI 1) zx zb dX12_bits_14 (by decide) ?_
        refine lv_iand zx zb dX12_bits_15 ?_
        refine g_top (y := (q >>> (nI i)) &&& 1) rfl ?_
        refine lv_iadd zx zb dX12_bits_16 ?_
        refine lv_istore_n (lv' := [(1, .int (a + ((q >>> (nI i)) &&& 1))), (0, .int q), (2, .int (nI i))]) zx zb dX12_bits_17 rfl hl (by decide) rfl (fun ls hl => ?_)
        refine lv_iinc (v := nI (i + 1)) (lv' := [(2, .int (nI (i + 1))), (1, .int (a + ((q >>> (nI i)) &&& 1))), (0, .int q)]) zx zb dX12_bits_18 hl (k := 2) rfl (nI_inc _ 1) (by decide) rfl (fun ls hl => ?_)
        refine lv_goto (tgt := 4) zx zb dX12_bits_21 (by decide) ?_
        exact ih4 (i + 1) (a + ((q >>> (nI i)) &&& 1)) (by omega) (by rw [bitsN, ← ha]) (by omega) _ _ hP hD hS _ (lv_sub hl [2, 1, 0] rfl)
  exact L4 _ 0 0 (by omega) (rfl) (Nat.lt_succ_self _) _ _ hP hD hS _ (lv_sub hl [2, 1, 0] rfl)

set_option maxHeartbeats 4000000 in
set_option maxRecDepth 100000 in
theorem c_X12_many (Γ : GG) (l : Launch) (q : Int32)  : Ci Γ l yX12_many cX12_many 1 (some (.int)) 1 22 0 0 [.int q] [] (fun (r : Int32) (u : Unit) => r = bitsN (q &&& 255) 8 + bitsN (q >>> 8) 8) (fun (u : Unit) => []) := by
  refine Ci.of (Or.inl rfl) (by decide) (Nat.le_of_ble_eq_true rfl) ?_
  intro pp ee ss mm bb me cd AA QQ XX hnm hA hP hD fin ls hl
  obtain ⟨zx, zb, hml, hown, hts, hK⟩ := id XX
  have hS : va_S AA ss.heap ss.heap [] := va_S.rf
  have hl : lv_has ls 1 [(0, .int q)] := hl
  refine lv_iload_n zx zb dX12_many_0 rfl (lv_at hl 0 rfl) ?_
  refine lv_sipush (v := nI 255) zx zb dX12_many_1 (by decide) ?_
  refine lv_iand zx zb dX12_many_4 ?_
  refine g_top (y := q &&& 255) rfl ?_
  refine callR_Si (As := [.int (q &&& 255)]) (rest := []) XX cs_X12_246 (c_X12_bits Γ l (q &&& 255) ) hP hD hS hA nil_mem nil_D rfl hl.1 rfl ⟨⟨by decide, by decide⟩, by decide, by decide⟩ (Nat.le_of_ble_eq_true rfl) dX12_many_5 (fun r_5 H locs hw hP hS => ?_)
  have hw := hw.symm
  subst hw
  refine lv_iload_n zx zb dX12_many_8 rfl (lv_at hl 0 rfl) ?_
  refine lv_bipush (v := nI 8) zx zb dX12_many_9 (by decide) ?_
  refine lv_ishr zx zb dX12_many_11 ?_
  refine g_top (y := q >>> (nI 8)) (sh31r _ (by omega)) ?_
  refine callR_Si (As := [.int (q >>> (nI 8))]) (rest := [.int (bitsN (q &&& 255) 8)]) XX cs_X12_246 (c_X12_bits Γ l (q >>> (nI 8)) ) hP hD hS hA nil_mem nil_D rfl hl.1 rfl ⟨⟨by decide, by decide⟩, by decide, by decide⟩ (Nat.le_of_ble_eq_true rfl) dX12_many_12 (fun r_12 H locs hw hP hS => ?_)
  have hw := hw.symm
  subst hw
  refine lv_iadd zx zb dX12_many_15 ?_
  exact fin _ _ ((bitsN (q &&& 255) 8) + (bitsN (q >>> (nI 8)) 8)) () 16 _ dX12_many_16 (fun h => by cases h) (rfl) hP hD hS
