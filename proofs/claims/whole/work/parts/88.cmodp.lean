theorem cs_X12_276 : CWS RX12 276 yX12_many cX12_many 1 (some (.int)) 1 := ⟨cd_X12_many, st_X12_many, in_X12, ml_X12_276, by decide +kernel⟩
theorem cv_X12_273 : CWV RX12 273 RX12 yX12_wantsBy cX12_wantsBy 7 (some (.int)) 1 := ⟨cd_X12_wantsBy, im_X12_wantsBy, se_X12_X12_wantsBy_X12_wantsBy, in_X12, ml_X12_273, by decide +kernel⟩
set_option maxHeartbeats 4000000 in
set_option maxRecDepth 100000 in
theorem c_X12_learnt (Γ : GG) (l : Launch) (m : Nat → Nat) (M : MoV) (b : Nat → Int32) (C : CoV) (tr : Nat → TrV) (Y : YrV) (pc : Nat) (P : Nat → YrV) (f : Nat → Int32) (k : Int32) (w : Int32) (hr : Rel b C tr Y pc P) (hI : Inv C tr Y) (hDD : InvD C) : Ci Γ l yX12_learnt cX12_learnt 10 (some (.int)) 4 95 0 0 [.ref (m 0), .int k, .int w] [bMo Γ m M, bA Γ (m 1) 259 b, bA Γ (m 6) 3 f] (fun (r : Int32) (u : Nat → Int32) => r = lnR C Y k w ∧ u = moV M f (lnOk k w)) (fun (u : Nat → Int32) => [bMo Γ m M, bA Γ (m 1) 259 b, bA Γ (m 6) 3 u]) := by
  refine Ci.of (Or.inl rfl) (by decide) (Nat.le_of_ble_eq_true rfl) ?_
  intro pp ee ss mm bb me cd AA QQ XX hnm hA hP hD fin ls hl
  obtain ⟨zx, zb, hml, hown, hts, hK⟩ := id XX
  have hS : va_S AA ss.heap ss.heap [] := va_S.rf
  have hl : lv_has ls 10 [(0, .ref (m 0)), (1, .int k), (2, .int w)] := hl
  have htc := inv_tc hI
  have hdc := inv_dc hI
  have hn := inv_n hI
  refine lv_iload_n zx zb dX12_learnt_0 rfl (lv_at hl 1 rfl) ?_
  refine lv_i2l (v := k.toInt64) zx zb dX12_learnt_1 rfl ?_
  refine lv_lconst (v := (0 : Int32).toInt64) zx zb dX12_learnt_2 (by decide) ?_
  refine lv_ldc2 zx zb hown (hts _ kl_X12_79) dX12_learnt_3 ?_
  refine g_topl (y := (7 : Int32).toInt64) (by decide) ?_
  refine callR_Si (As := [.long k.toInt64, .long ((0 : Int32).toInt64), .long ((7 : Int32).toInt64)]) (rest := []) XX cs_X12_53 (c_X12_in Γ l k 0 7 ) hP hD hS hA nil_mem nil_D rfl hl.1 rfl ⟨⟨by decide, by decide⟩, by decide, by decide⟩ (Nat.le_of_ble_eq_true rfl) dX12_learnt_6 (fun r_6 H locs hw hP hS => ?_)
  have hw := hw.symm
  subst hw
  refine lv_if_eq (tgt := 22) zx zb dX12_learnt_9 (by decide) (fun c_9 => ?_) (fun c_9 => ?_)
  · have c_9 : (wi k 0 7) = false := bI_0.mp c_9
    refine lv_aload_n zx zb dX12_learnt_22 rfl (lv_at hl 0 rfl) ?_
    refine lv_iconst (v := nI 0) zx zb dX12_learnt_23 (by decide) ?_
    refine lv_bipush (v := (-10)) zx zb dX12_learnt_24 (by decide) ?_
    refine call_Vi (As := [.int (nI 0), .int (-10)]) (rest := []) XX cv_X12_49 (c_X12_refuses Γ l m M f 0 (-10) (by decide)) hP hD hS hA [0, 2] (by decide) rfl (fun _ => rfl) 0 0 rfl rfl rfl rfl hl.1 rfl ⟨⟨by decide, by decide⟩, by decide, by decide⟩ (Nat.le_of_ble_eq_true rfl) dX12_learnt_26 (fun r_26 u H locs hw hP hD hS => ?_)
    obtain ⟨hw1, hw2⟩ := hw
    have hw1 := hw1.symm
    have hw2 := hw2.symm
    subst hw1
    subst hw2
    have hP : bP Γ [bMo Γ m M, bA Γ (m 1) 259 b, bA Γ (m 6) 3 (moRef M f 0)] H := hP
    have hD : bD AA [bMo Γ m M, bA Γ (m 1) 259 b, bA Γ (m 6) 3 (moRef M f 0)] := hD
    exact fin _ _ (-10) (moRef M f 0) 29 _ dX12_learnt_29 (fun h => by cases h) ⟨(by first | exact ln_b (lnk_1 c_9) | exact ln_b (lnk_2 c_19)), (by first | exact mo_f (lnk_1 c_9) | exact mo_f (lnk_2 c_19))⟩ hP hD hS
  · have c_9 : (wi k 0 7) = true := bI_ne c_9
    refine lv_iload_n zx zb dX12_learnt_12 rfl (lv_at hl 2 rfl) ?_
    refine lv_i2l (v := w.toInt64) zx zb dX12_learnt_13 rfl ?_
    refine lv_lconst (v := (0 : Int32).toInt64) zx zb dX12_learnt_14 (by decide) ?_
    refine lv_lconst (v := (1 : Int32).toInt64) zx zb dX12_learnt_15 (by decide) ?_
    refine callR_Si (As := [.long w.toInt64, .long ((0 : Int32).toInt64), .long ((1 : Int32).toInt64)]) (rest := []) XX cs_X12_53 (c_X12_in Γ l w 0 1 ) hP hD hS hA nil_mem nil_D rfl hl.1 rfl ⟨⟨by decide, by decide⟩, by decide, by decide⟩ (Nat.le_of_ble_eq_true rfl) dX12_learnt_16 (fun r_16 H locs hw hP hS => ?_)
    have hw := hw.symm
    subst hw
    refine lv_if_ne (tgt := 30) zx zb dX12_learnt_19 (by decide) (fun c_19 => ?_) (fun c_19 => ?_)
    · have c_19 : (wi w 0 1) = true := bI_ne c_19
      have hq16 : ∀ i, 16 ≤ i → (fitW C Y k 16).toBitVec.getLsbD i = false := fun i hi => fitW_b (Nat.le_refl 16) hi
      have hn1 : 1 ≤ C.1 := hI.1.1
      refine lv_aload_n zx zb dX12_learnt_30 rfl (lv_at hl 0 rfl) ?_
      refine lv_iload_n zx zb dX12_learnt_31 rfl (lv_at hl 1 rfl) ?_
      refine call_Vi (As := [.int k]) (rest := []) XX cv_X12_273 (c_X12_wantsBy Γ l m M b C tr Y pc P k (hr) (hI) (hDD)) hP hD hS hA [0, 1] (by decide) rfl (fun _ => rfl) 0 0 rfl rfl rfl rfl hl.1 rfl ⟨⟨by decide, by decide⟩, by decide, by decide⟩ (Nat.le_of_ble_eq_true rfl) dX12_learnt_32 (fun r_32 u H locs hw hP hD hS => ?_)
      have hw := hw.symm
      subst hw
      have hP : bP Γ [bMo Γ m M, bA Γ (m 1) 259 b, bA Γ (m 6) 3 f] H := hP
      have hD : bD AA [bMo Γ m M, bA Γ (m 1) 259 b, bA Γ (m 6) 3 f] := hD
      refine lv_istore_n (lv' := [(3, .int (fitW C Y k 16)), (0, .ref (m 0)), (1, .int k), (2, .int w)]) zx zb dX12_learnt_35 rfl hl (by decide) rfl (fun ls hl => ?_)
      refine lv_iload_n zx zb dX12_learnt_36 rfl (lv_at hl 3 rfl) ?_
      refine lv_if_ne (tgt := 45) zx zb dX12_learnt_37 (by decide) (fun c_37 => ?_) (fun c_37 => ?_)
      · have c_37 : ¬ (w = (0 : Int32)) := c_37
        refine lv_iconst (v := (-1)) zx zb dX12_learnt_45 (by decide) ?_
        refine lv_istore (lv' := [(4, .int (-1)), (3, .int (fitW C Y k 16)), (0, .ref (m 0)), (1, .int k), (2, .int w)]) zx zb dX12_learnt_46 hl (by decide) rfl (fun ls hl => ?_)
        refine lv_bipush (v := nI 100) zx zb dX12_learnt_48 (by decide) ?_
        refine lv_istore (lv' := [(5, .int (nI 100)), (4, .int (-1)), (3, .int (fitW C Y k 16)), (0, .ref (m 0)), (1, .int k), (2, .int w)]) zx zb dX12_learnt_50 hl (by decide) rfl (fun ls hl => ?_)
        refine lv_iconst (v := nI 0) zx zb dX12_learnt_52 (by decide) ?_
        refine lv_istore (lv' := [(6, .int (nI 0)), (5, .int (nI 100)), (4, .int (-1)), (3, .int (fitW C Y k 16)), (0, .ref (m 0)), (1, .int k), (2, .int w)]) zx zb dX12_learnt_53 hl (by decide) rfl (fun ls hl => ?_)
        have L55 : ∀ (nn : Nat) (x1 : Nat) (g4 : Int32) (l5 : Int32), (x1 ≤ C.1) → (lnG C Y (fitW C Y k 16) x1 g4 l5) → C.1 - x1 < nn → ∀ (H : Heap) (locs : List Loc), bP Γ [bMo Γ m M, bA Γ (m 1) 259 b, bA Γ (m 6) 3 f] H → bD AA [bMo Γ m M, bA Γ (m 1) 259 b, bA Γ (m 6) 3 f] → va_S AA ss.heap H locs → ∀ (ls : Array Slot), lv_has ls 10 [(0, .ref (m 0)), (1, .int k), (2, .int w), (3, .int (fitW C Y k 16)), (4, .int g4), (5, .int l5), (6, .int (nI x1))] → W pp l ee { frames := 4, cells := 0, slots := 0, locals := 95 } ss mm [.ref (m 0), .int k, .int w].toArray bb me cd H locs 0 0 QQ (F0 mm 55 ls []) := by
          intro nn
          induction nn with
          | zero => intro x1 g4 l5 hx hg hm; exact absurd hm (Nat.not_lt_zero _)
          | succ nn ih55 =>
            intro x1 g4 l5 hx hg hm55 H locs hP hD hS ls hl
            refine lv_iload zx zb dX12_learnt_55 (lv_at hl 6 rfl) ?_
            refine lv_aload_n zx zb dX12_learnt_57 rfl (lv_at hl 0 rfl) ?_
            refine g_get (v := .ref (m 1)) XX hP 0 0 rfl rfl rfl iwX12 0 (by decide) fl_X12_7 rfl dX12_learnt_58 ?_
            refine lv_iconst (v := nI 0) zx zb dX12_learnt_61 (by decide) ?_
            refine g_ialdN (i := 0) XX hP 1 0 rfl rfl (by omega) (by decide) dX12_learnt_62 ?_
            refine g_top (y := nI (C.1)) (Rel.n hr) ?_
            refine lv_icmp_ge (tgt := 187) zx zb dX12_learnt_63 (by decide) (fun c_63 => ?_) (fun c_63 => ?_)
            · have c_63 : C.1 ≤ x1 := (nI_leI (a := C.1) (b := x1) (by omega) (by omega)).mp c_63
              refine lv_iload zx zb dX12_learnt_187 (lv_at hl 4 rfl) ?_
              exact fin _ _ g4 f 189 _ dX12_learnt_189 (fun h => by cases h) ⟨(ln_e (lnk_3 c_9 c_19) c_37 hn1 hg (by first | exact Or.inr c_67 | exact Or.inl (by omega))), (mo_t (lnk_3 c_9 c_19))⟩ hP hD hS
            · have c_63 : ¬ (C.1 ≤ x1) := fun h => c_63 ((nI_leI (a := C.1) (b := x1) (by omega) (by omega)).mpr h)
              refine lv_iload_n zx zb dX12_learnt_66 rfl (lv_at hl 3 rfl) ?_
              refine lv_if_eq (tgt := 187) zx zb dX12_learnt_67 (by decide) (fun c_67 => ?_) (fun c_67 => ?_)
              · have c_67 : (fitW C Y k 16) = (0 : Int32) := c_67
                refine lv_iload zx zb dX12_learnt_187 (lv_at hl 4 rfl) ?_
                exact fin _ _ g4 f 189 _ dX12_learnt_189 (fun h => by cases h) ⟨(ln_e (lnk_3 c_9 c_19) c_37 hn1 hg (by first | exact Or.inr c_67 | exact Or.inl (by omega))), (mo_t (lnk_3 c_9 c_19))⟩ hP hD hS
              · have c_67 : ¬ ((fitW C Y k 16) = (0 : Int32)) := c_67
                refine lv_iconst (v := nI 0) zx zb dX12_learnt_70 (by decide) ?_
                refine lv_istore (lv' := [(7, .int (nI 0)), (0, .ref (m 0)), (1, .int k), (2, .int w), (3, .int (fitW C Y k 16)), (4, .int g4), (5, .int l5), (6, .int (nI x1))]) zx zb dX12_learnt_71 hl (by decide) rfl (fun ls hl => ?_)
                refine lv_iconst (v := nI 0) zx zb dX12_learnt_73 (by decide) ?_
                refine lv_istore (lv' := [(8, .int (nI 0)), (7, .int (nI 0)), (0, .ref (m 0)), (1, .int k), (2, .int w), (3, .int (fitW C Y k 16)), (4, .int g4), (5, .int l5), (6, .int (nI x1))]) zx zb dX12_learnt_74 hl (by decide) rfl (fun ls hl => ?_)
                have L76 : ∀ (nn : Nat) (j : Nat) (a : Int32), (j ≤ 16) → (a = wetS C Y (fitW C Y k 16) x1 j) → 16 - j < nn → ∀ (H : Heap) (locs : List Loc), bP Γ [bMo Γ m M, bA Γ (m 1) 259 b, bA Γ (m 6) 3 f] H → bD AA [bMo Γ m M, bA Γ (m 1) 259 b, bA Γ (m 6) 3 f] → va_S AA ss.heap H locs → ∀ (ls : Array Slot), lv_has ls 10 [(0, .ref (m 0)), (1, .int k), (2, .int w), (3, .int (fitW C Y k 16)), (4, .int g4), (5, .int l5), (6, .int (nI x1)), (7, .int a), (8, .int (nI j))] → W pp l ee { frames := 4, cells := 0, slots := 0, locals := 95 } ss mm [.ref (m 0), .int k, .int w].toArray bb me cd H locs 0 0 QQ (F0 mm 76 ls []) := by
                  intro nn
                  induction nn with
                  | zero => intro j a hj ha hm; exact absurd hm (Nat.not_lt_zero _)
                  | succ nn ih76 =>
                    intro j a hj ha hm76 H locs hP hD hS ls hl
                    refine lv_iload zx zb dX12_learnt_76 (lv_at hl 8 rfl) ?_
                    refine lv_bipush (v := nI 16) zx zb dX12_learnt_78 (by decide) ?_
                    refine lv_icmp_ge (tgt := 123) zx zb dX12_learnt_80 (by decide) (fun c_80 => ?_) (fun c_80 => ?_)
                    · have c_80 : 16 ≤ j := (nI_leI (a := 16) (b := j) (by omega) (by omega)).mp c_80
                      have ej : j = 16 := (by omega)
                      have ea : a = wetS C Y (fitW C Y k 16) x1 16 := ej ▸ ha
                      refine lv_iload_n zx zb dX12_learnt_123 rfl (lv_at hl 3 rfl) ?_
                      refine lv_iload zx zb dX12_learnt_124 (lv_at hl 7 rfl) ?_
                      refine lv_iconst (v := (-1)) zx zb dX12_learnt_126 (by decide) ?_
                      refine lv_ixor zx zb dX12_learnt_127 ?_
                      refine lv_iand zx zb dX12_learnt_128 ?_
                      refine callR_Si (As := [.int ((fitW C Y k 16) &&& (a ^^^ (-1)))]) (rest := []) XX cs_X12_276 (c_X12_many Γ l ((fitW C Y k 16) &&& (a ^^^ (-1))) ) hP hD hS hA nil_mem nil_D rfl hl.1 rfl ⟨⟨by decide, by decide⟩, by decide, by decide⟩ (Nat.le_of_ble_eq_true rfl) dX12_learnt_129 (fun r_129 H locs hw hP hS => ?_)
                      have hw := hw.symm
                      subst hw
                      refine lv_istore (lv' := [(8, .int (bitsN (((fitW C Y k 16) &&& (a ^^^ (-1))) &&& 255) 8 + bitsN (((fitW C Y k 16) &&& (a ^^^ (-1))) >>> 8) 8)), (0, .ref (m 0)), (1, .int k), (2, .int w), (3, .int (fitW C Y k 16)), (4, .int g4), (5, .int l5), (6, .int (nI x1)), (7, .int a)]) zx zb dX12_learnt_132 hl (by decide) rfl (fun ls hl => ?_)
                      refine lv_iload zx zb dX12_learnt_134 (lv_at hl 8 rfl) ?_
                      refine callR_Si (As := [.int a]) (rest := []) XX cs_X12_276 (c_X12_many Γ l a ) hP hD hS hA nil_mem nil_D rfl hl.1 rfl ⟨⟨by decide, by decide⟩, by decide, by decide⟩ (Nat.le_of_ble_eq_true rfl) dX12_learnt_136 (fun r_136 H locs hw hP hS => ?_)
                      have hw := hw.symm
                      subst hw
                      refine lv_iload zx zb dX12_learnt_139 (lv_at hl 0 rfl) ?_
                      refine lv_icmp_le (tgt := 152) zx zb dX12_learnt_141 (by decide) (fun c_141 => ?_) (fun c_141 => ?_)
                      · have c_141 : (bitsN (a &&& 255) 8 + bitsN (a >>> 8) 8) ≤ (bitsN (((fitW C Y k 16) &&& (a ^^^ (-1))) &&& 255) 8 + bitsN (((fitW C Y k 16) &&& (a ^^^ (-1))) >>> 8) 8) := c_141
                        refine lv_iload zx zb dX12_learnt_152 (lv_at hl 0 rfl) ?_
                        refine lv_istore (lv' := [(9, .int (bitsN (((fitW C Y k 16) &&& (a ^^^ (-1))) &&& 255) 8 + bitsN (((fitW C Y k 16) &&& (a ^^^ (-1))) >>> 8) 8)), (8, .int (bitsN (((fitW C Y k 16) &&& (a ^^^ (-1))) &&& 255) 8 + bitsN (((fitW C Y k 16) &&& (a ^^^ (-1))) >>> 8) 8)), (0, .ref (m 0)), (1, .int k), (2, .int w), (3, .int (fitW C Y k 16)), (4, .int g4), (5, .int l5), (6, .int (nI x1)), (7, .int a)]) zx zb dX12_learnt_154 hl (by decide) rfl (fun ls hl => ?_)
                        refine lv_iload zx zb dX12_learnt_156 (lv_at hl 0 rfl) ?_
                        refine lv_iload zx zb dX12_learnt_158 (lv_at hl 7 rfl) ?_
                        refine lv_icmp_ge (tgt := 168) zx zb dX12_learnt_160 (by decide) (fun c_160 => ?_) (fun c_160 => ?_)
                        · have c_160 : l5 ≤ (bitsN (((fitW C Y k 16) &&& (a ^^^ (-1))) &&& 255) 8 + bitsN (((fitW C Y k 16) &&& (a ^^^ (-1))) >>> 8) 8) := c_160
                          refine lv_iload zx zb dX12_learnt_168 (lv_at hl 6 rfl) ?_
                          refine lv_istore (lv' := [(4, .int g4), (9, .int (bitsN (((fitW C Y k 16) &&& (a ^^^ (-1))) &&& 255) 8 + bitsN (((fitW C Y k 16) &&& (a ^^^ (-1))) >>> 8) 8)), (8, .int (bitsN (((fitW C Y k 16) &&& (a ^^^ (-1))) &&& 255) 8 + bitsN (((fitW C Y k 16) &&& (a ^^^ (-1))) >>> 8) 8)), (0, .ref (m 0)), (1, .int k), (2, .int w), (3, .int (fitW C Y k 16)), (5, .int l5), (6, .int (nI x1)), (7, .int a)]) zx zb dX12_learnt_170 hl (by decide) rfl (fun ls hl => ?_)
                          refine lv_iload zx zb dX12_learnt_172 (lv_at hl 1 rfl) ?_
                          refine lv_iload zx zb dX12_learnt_174 (lv_at hl 7 rfl) ?_
                          refine callR_Si (As := [.int (bitsN (((fitW C Y k 16) &&& (a ^^^ (-1))) &&& 255) 8 + bitsN (((fitW C Y k 16) &&& (a ^^^ (-1))) >>> 8) 8), .int l5]) (rest := []) XX cs_X12_209 (c_X12_lesser Γ l (bitsN (((fitW C Y k 16) &&& (a ^^^ (-1))) &&& 255) 8 + bitsN (((fitW C Y k 16) &&& (a ^^^ (-1))) >>> 8) 8) l5 ) hP hD hS hA nil_mem nil_D rfl hl.1 rfl ⟨⟨by decide, by decide⟩, by decide, by decide⟩ (Nat.le_of_ble_eq_true rfl) dX12_learnt_176 (fun r_176 H locs hw hP hS => ?_)
                          have hw := hw.symm
                          subst hw
                          refine lv_istore (lv' := [(5, .int (imin l5 (bitsN (((fitW C Y k 16) &&& (a ^^^ (-1))) &&& 255) 8 + bitsN (((fitW C Y k 16) &&& (a ^^^ (-1))) >>> 8) 8))), (4, .int g4), (9, .int (bitsN (((fitW C Y k 16) &&& (a ^^^ (-1))) &&& 255) 8 + bitsN (((fitW C Y k 16) &&& (a ^^^ (-1))) >>> 8) 8)), (8, .int (bitsN (((fitW C Y k 16) &&& (a ^^^ (-1))) &&& 255) 8 + bitsN (((fitW C Y k 16) &&& (a ^^^ (-1))) >>> 8) 8)), (0, .ref (m 0)), (1, .int k), (2, .int w), (3, .int (fitW C Y k 16)), (6, .int (nI x1)), (7, .int a)]) zx zb dX12_learnt_179 hl (by decide) rfl (fun ls hl => ?_)
                          refine lv_iinc (v := nI (x1 + 1)) (lv' := [(6, .int (nI (x1 + 1))), (5, .int (imin l5 (bitsN (((fitW C Y k 16) &&& (a ^^^ (-1))) &&& 255) 8 + bitsN (((fitW C Y k 16) &&& (a ^^^ (-1))) >>> 8) 8))), (4, .int g4), (9, .int (bitsN (((fitW C Y k 16) &&& (a ^^^ (-1))) &&& 255) 8 + bitsN (((fitW C Y k 16) &&& (a ^^^ (-1))) >>> 8) 8)), (8, .int (bitsN (((fitW C Y k 16) &&& (a ^^^ (-1))) &&& 255) 8 + bitsN (((fitW C Y k 16) &&& (a ^^^ (-1))) >>> 8) 8)), (0, .ref (m 0)), (1, .int k), (2, .int w), (3, .int (fitW C Y k 16)), (7, .int a)]) zx zb dX12_learnt_181 hl (k := 8) rfl (nI_inc _ 1) (by decide) rfl (fun ls hl => ?_)
                          refine lv_goto (tgt := 55) zx zb dX12_learnt_184 (by decide) ?_
                          exact ih55 (x1 + 1) g4 (imin l5 (bitsN (((fitW C Y k 16) &&& (a ^^^ (-1))) &&& 255) 8 + bitsN (((fitW C Y k 16) &&& (a ^^^ (-1))) >>> 8) 8)) (by omega) (ln_n hq16 c_67 hg (ln_w1 hq16 ea c_141) (Int32.not_lt.mpr c_160)) (by omega) _ _ hP hD hS _ (lv_sub hl [5, 6, 7, 8, 2, 1, 0] rfl)
                        · have c_160 : ¬ (l5 ≤ (bitsN (((fitW C Y k 16) &&& (a ^^^ (-1))) &&& 255) 8 + bitsN (((fitW C Y k 16) &&& (a ^^^ (-1))) >>> 8) 8)) := c_160
                          refine lv_iload zx zb dX12_learnt_163 (lv_at hl 8 rfl) ?_
                          refine lv_goto (tgt := 170) zx zb dX12_learnt_165 (by decide) ?_
                          refine lv_istore (lv' := [(4, .int (nI x1)), (9, .int (bitsN (((fitW C Y k 16) &&& (a ^^^ (-1))) &&& 255) 8 + bitsN (((fitW C Y k 16) &&& (a ^^^ (-1))) >>> 8) 8)), (8, .int (bitsN (((fitW C Y k 16) &&& (a ^^^ (-1))) &&& 255) 8 + bitsN (((fitW C Y k 16) &&& (a ^^^ (-1))) >>> 8) 8)), (0, .ref (m 0)), (1, .int k), (2, .int w), (3, .int (fitW C Y k 16)), (5, .int l5), (6, .int (nI x1)), (7, .int a)]) zx zb dX12_learnt_170 hl (by decide) rfl (fun ls hl => ?_)
                          refine lv_iload zx zb dX12_learnt_172 (lv_at hl 1 rfl) ?_
                          refine lv_iload zx zb dX12_learnt_174 (lv_at hl 7 rfl) ?_
                          refine callR_Si (As := [.int (bitsN (((fitW C Y k 16) &&& (a ^^^ (-1))) &&& 255) 8 + bitsN (((fitW C Y k 16) &&& (a ^^^ (-1))) >>> 8) 8), .int l5]) (rest := []) XX cs_X12_209 (c_X12_lesser Γ l (bitsN (((fitW C Y k 16) &&& (a ^^^ (-1))) &&& 255) 8 + bitsN (((fitW C Y k 16) &&& (a ^^^ (-1))) >>> 8) 8) l5 ) hP hD hS hA nil_mem nil_D rfl hl.1 rfl ⟨⟨by decide, by decide⟩, by decide, by decide⟩ (Nat.le_of_ble_eq_true rfl) dX12_learnt_176 (fun r_176 H locs hw hP hS => ?_)
                          have hw := hw.symm
                          subst hw
                          refine lv_istore (lv' := [(5, .int (imin l5 (bitsN (((fitW C Y k 16) &&& (a ^^^ (-1))) &&& 255) 8 + bitsN (((fitW C Y k 16) &&& (a ^^^ (-1))) >>> 8) 8))), (4, .int (nI x1)), (9, .int (bitsN (((fitW C Y k 16) &&& (a ^^^ (-1))) &&& 255) 8 + bitsN (((fitW C Y k 16) &&& (a ^^^ (-1))) >>> 8) 8)), (8, .int (bitsN (((fitW C Y k 16) &&& (a ^^^ (-1))) &&& 255) 8 + bitsN (((fitW C Y k 16) &&& (a ^^^ (-1))) >>> 8) 8)), (0, .ref (m 0)), (1, .int k), (2, .int w), (3, .int (fitW C Y k 16)), (6, .int (nI x1)), (7, .int a)]) zx zb dX12_learnt_179 hl (by decide) rfl (fun ls hl => ?_)
                          refine lv_iinc (v := nI (x1 + 1)) (lv' := [(6, .int (nI (x1 + 1))), (5, .int (imin l5 (bitsN (((fitW C Y k 16) &&& (a ^^^ (-1))) &&& 255) 8 + bitsN (((fitW C Y k 16) &&& (a ^^^ (-1))) >>> 8) 8))), (4, .int (nI x1)), (9, .int (bitsN (((fitW C Y k 16) &&& (a ^^^ (-1))) &&& 255) 8 + bitsN (((fitW C Y k 16) &&& (a ^^^ (-1))) >>> 8) 8)), (8, .int (bitsN (((fitW C Y k 16) &&& (a ^^^ (-1))) &&& 255) 8 + bitsN (((fitW C Y k 16) &&& (a ^^^ (-1))) >>> 8) 8)), (0, .ref (m 0)), (1, .int k), (2, .int w), (3, .int (fitW C Y k 16)), (7, .int a)]) zx zb dX12_learnt_181 hl (k := 8) rfl (nI_inc _ 1) (by decide) rfl (fun ls hl => ?_)
                          refine lv_goto (tgt := 55) zx zb dX12_learnt_184 (by decide) ?_
                          exact ih55 (x1 + 1) (nI x1) (imin l5 (bitsN (((fitW C Y k 16) &&& (a ^^^ (-1))) &&& 255) 8 + bitsN (((fitW C Y k 16) &&& (a ^^^ (-1))) >>> 8) 8)) (by omega) (ln_y hq16 c_67 hg (ln_w1 hq16 ea c_141) (Int32.not_le.mp c_160)) (by omega) _ _ hP hD hS _ (lv_sub hl [5, 6, 7, 8, 2, 1, 0] rfl)
                      · have c_141 : ¬ ((bitsN (a &&& 255) 8 + bitsN (a >>> 8) 8) ≤ (bitsN (((fitW C Y k 16) &&& (a ^^^ (-1))) &&& 255) 8 + bitsN (((fitW C Y k 16) &&& (a ^^^ (-1))) >>> 8) 8)) := c_141
                        refine lv_iload zx zb dX12_learnt_144 (lv_at hl 8 rfl) ?_
                        refine callR_Si (As := [.int a]) (rest := []) XX cs_X12_276 (c_X12_many Γ l a ) hP hD hS hA nil_mem nil_D rfl hl.1 rfl ⟨⟨by decide, by decide⟩, by decide, by decide⟩ (Nat.le_of_ble_eq_true rfl) dX12_learnt_146 (fun r_146 H locs hw hP hS => ?_)
                        have hw := hw.symm
                        subst hw
                        refine lv_goto (tgt := 154) zx zb dX12_learnt_149 (by decide) ?_
                        refine lv_istore (lv' := [(9, .int (bitsN (a &&& 255) 8 + bitsN (a >>> 8) 8)), (8, .int (bitsN (((fitW C Y k 16) &&& (a ^^^ (-1))) &&& 255) 8 + bitsN (((fitW C Y k 16) &&& (a ^^^ (-1))) >>> 8) 8)), (0, .ref (m 0)), (1, .int k), (2, .int w), (3, .int (fitW C Y k 16)), (4, .int g4), (5, .int l5), (6, .int (nI x1)), (7, .int a)]) zx zb dX12_learnt_154 hl (by decide) rfl (fun ls hl => ?_)
                        refine lv_iload zx zb dX12_learnt_156 (lv_at hl 0 rfl) ?_
                        refine lv_iload zx zb dX12_learnt_158 (lv_at hl 7 rfl) ?_
                        refine lv_icmp_ge (tgt := 168) zx zb dX12_learnt_160 (by decide) (fun c_160 => ?_) (fun c_160 => ?_)
                        · have c_160 : l5 ≤ (bitsN (a &&& 255) 8 + bitsN (a >>> 8) 8) := c_160
                          refine lv_iload zx zb dX12_learnt_168 (lv_at hl 6 rfl) ?_
                          refine lv_istore (lv' := [(4, .int g4), (9, .int (bitsN (a &&& 255) 8 + bitsN (a >>> 8) 8)), (8, .int (bitsN (((fitW C Y k 16) &&& (a ^^^ (-1))) &&& 255) 8 + bitsN (((fitW C Y k 16) &&& (a ^^^ (-1))) >>> 8) 8)), (0, .ref (m 0)), (1, .int k), (2, .int w), (3, .int (fitW C Y k 16)), (5, .int l5), (6, .int (nI x1)), (7, .int a)]) zx zb dX12_learnt_170 hl (by decide) rfl (fun ls hl => ?_)
                          refine lv_iload zx zb dX12_learnt_172 (lv_at hl 1 rfl) ?_
                          refine lv_iload zx zb dX12_learnt_174 (lv_at hl 7 rfl) ?_
                          refine callR_Si (As := [.int (bitsN (a &&& 255) 8 + bitsN (a >>> 8) 8), .int l5]) (rest := []) XX cs_X12_209 (c_X12_lesser Γ l (bitsN (a &&& 255) 8 + bitsN (a >>> 8) 8) l5 ) hP hD hS hA nil_mem nil_D rfl hl.1 rfl ⟨⟨by decide, by decide⟩, by decide, by decide⟩ (Nat.le_of_ble_eq_true rfl) dX12_learnt_176 (fun r_176 H locs hw hP hS => ?_)
                          have hw := hw.symm
                          subst hw
                          refine lv_istore (lv' := [(5, .int (imin l5 (bitsN (a &&& 255) 8 + bitsN (a >>> 8) 8))), (4, .int g4), (9, .int (bitsN (a &&& 255) 8 + bitsN (a >>> 8) 8)), (8, .int (bitsN (((fitW C Y k 16) &&& (a ^^^ (-1))) &&& 255) 8 + bitsN (((fitW C Y k 16) &&& (a ^^^ (-1))) >>> 8) 8)), (0, .ref (m 0)), (1, .int k), (2, .int w), (3, .int (fitW C Y k 16)), (6, .int (nI x1)), (7, .int a)]) zx zb dX12_learnt_179 hl (by decide) rfl (fun ls hl => ?_)
                          refine lv_iinc (v := nI (x1 + 1)) (lv' := [(6, .int (nI (x1 + 1))), (5, .int (imin l5 (bitsN (a &&& 255) 8 + bitsN (a >>> 8) 8))), (4, .int g4), (9, .int (bitsN (a &&& 255) 8 + bitsN (a >>> 8) 8)), (8, .int (bitsN (((fitW C Y k 16) &&& (a ^^^ (-1))) &&& 255) 8 + bitsN (((fitW C Y k 16) &&& (a ^^^ (-1))) >>> 8) 8)), (0, .ref (m 0)), (1, .int k), (2, .int w), (3, .int (fitW C Y k 16)), (7, .int a)]) zx zb dX12_learnt_181 hl (k := 8) rfl (nI_inc _ 1) (by decide) rfl (fun ls hl => ?_)
                          refine lv_goto (tgt := 55) zx zb dX12_learnt_184 (by decide) ?_
                          exact ih55 (x1 + 1) g4 (imin l5 (bitsN (a &&& 255) 8 + bitsN (a >>> 8) 8)) (by omega) (ln_n hq16 c_67 hg (ln_w2 hq16 ea c_141) (Int32.not_lt.mpr c_160)) (by omega) _ _ hP hD hS _ (lv_sub hl [5, 6, 7, 8, 2, 1, 0] rfl)
                        · have c_160 : ¬ (l5 ≤ (bitsN (a &&& 255) 8 + bitsN (a >>> 8) 8)) := c_160
                          refine lv_iload zx zb dX12_learnt_163 (lv_at hl 8 rfl) ?_
                          refine lv_goto (tgt := 170) zx zb dX12_learnt_165 (by decide) ?_
                          refine lv_istore (lv' := [(4, .int (nI x1)), (9, .int (bitsN (a &&& 255) 8 + bitsN (a >>> 8) 8)), (8, .int (bitsN (((fitW C Y k 16) &&& (a ^^^ (-1))) &&& 255) 8 + bitsN (((fitW C Y k 16) &&& (a ^^^ (-1))) >>> 8) 8)), (0, .ref (m 0)), (1, .int k), (2, .int w), (3, .int (fitW C Y k 16)), (5, .int l5), (6, .int (nI x1)), (7, .int a)]) zx zb dX12_learnt_170 hl (by decide) rfl (fun ls hl => ?_)
                          refine lv_iload zx zb dX12_learnt_172 (lv_at hl 1 rfl) ?_
                          refine lv_iload zx zb dX12_learnt_174 (lv_at hl 7 rfl) ?_
                          refine callR_Si (As := [.int (bitsN (a &&& 255) 8 + bitsN (a >>> 8) 8), .int l5]) (rest := []) XX cs_X12_209 (c_X12_lesser Γ l (bitsN (a &&& 255) 8 + bitsN (a >>> 8) 8) l5 ) hP hD hS hA nil_mem nil_D rfl hl.1 rfl ⟨⟨by decide, by decide⟩, by decide, by decide⟩ (Nat.le_of_ble_eq_true rfl) dX12_learnt_176 (fun r_176 H locs hw hP hS => ?_)
                          have hw := hw.symm
                          subst hw
                          refine lv_istore (lv' := [(5, .int (imin l5 (bitsN (a &&& 255) 8 + bitsN (a >>> 8) 8))), (4, .int (nI x1)), (9, .int (bitsN (a &&& 255) 8 + bitsN (a >>> 8) 8)), (8, .int (bitsN (((fitW C Y k 16) &&& (a ^^^ (-1))) &&& 255) 8 + bitsN (((fitW C Y k 16) &&& (a ^^^ (-1))) >>> 8) 8)), (0, .ref (m 0)), (1, .int k), (2, .int w), (3, .int (fitW C Y k 16)), (6, .int (nI x1)), (7, .int a)]) zx zb dX12_learnt_179 hl (by decide) rfl (fun ls hl => ?_)
                          refine lv_iinc (v := nI (x1 + 1)) (lv' := [(6, .int (nI (x1 + 1))), (5, .int (imin l5 (bitsN (a &&& 255) 8 + bitsN (a >>> 8) 8))), (4, .int (nI x1)), (9, .int (bitsN (a &&& 255) 8 + bitsN (a >>> 8) 8)), (8, .int (bitsN (((fitW C Y k 16) &&& (a ^^^ (-1))) &&& 255) 8 + bitsN (((fitW C Y k 16) &&& (a ^^^ (-1))) >>> 8) 8)), (0, .ref (m 0)), (1, .int k), (2, .int w), (3, .int (fitW C Y k 16)), (7, .int a)]) zx zb dX12_learnt_181 hl (k := 8) rfl (nI_inc _ 1) (by decide) rfl (fun ls hl => ?_)
                          refine lv_goto (tgt := 55) zx zb dX12_learnt_184 (by decide) ?_
                          exact ih55 (x1 + 1) (nI x1) (imin l5 (bitsN (a &&& 255) 8 + bitsN (a >>> 8) 8)) (by omega) (ln_y hq16 c_67 hg (ln_w2 hq16 ea c_141) (Int32.not_le.mp c_160)) (by omega) _ _ hP hD hS _ (lv_sub hl [5, 6, 7, 8, 2, 1, 0] rfl)
                    · have c_80 : ¬ (16 ≤ j) := fun h => c_80 ((nI_leI (a := 16) (b := j) (by omega) (by omega)).mpr h)
                      refine lv_iload zx zb dX12_learnt_83 (lv_at hl 7 rfl) ?_
                      refine lv_iload_n zx zb dX12_learnt_85 rfl (lv_at hl 3 rfl) ?_
                      refine lv_iload zx zb dX12_learnt_86 (lv_at hl 8 rfl) ?_
                      refine lv_ishr zx zb dX12_learnt_88 ?_
                      refine g_top (y := (fitW C Y k 16) >>> (nI j)) (sh31r _ (by omega)) ?_
                      refine lv_iconst (v := nI 1) zx zb dX12_learnt_89 (by decide) ?_
                      refine lv_iand zx zb dX12_learnt_90 ?_
                      refine g_top (y := ((fitW C Y k 16) >>> (nI j)) &&& 1) rfl ?_
                      refine lv_iconst (v := nI 1) zx zb dX12_learnt_91 (by decide) ?_
                      refine lv_icmp_ne (tgt := 113) zx zb dX12_learnt_92 (by decide) (fun c_92 => ?_) (fun c_92 => ?_)
                      · have c_92 : hasB (fitW C Y k 16) j = false := shrBf (by omega) c_92
                        refine lv_iconst (v := nI 0) zx zb dX12_learnt_113 (by decide) ?_
                        refine lv_ior zx zb dX12_learnt_114 ?_
                        refine g_top (y := a ||| 0) rfl ?_
                        refine lv_istore (lv' := [(7, .int (a ||| 0)), (0, .ref (m 0)), (1, .int k), (2, .int w), (3, .int (fitW C Y k 16)), (4, .int g4), (5, .int l5), (6, .int (nI x1)), (8, .int (nI j))]) zx zb dX12_learnt_115 hl (by decide) rfl (fun ls hl => ?_)
                        refine lv_iinc (v := nI (j + 1)) (lv' := [(8, .int (nI (j + 1))), (7, .int (a ||| 0)), (0, .ref (m 0)), (1, .int k), (2, .int w), (3, .int (fitW C Y k 16)), (4, .int g4), (5, .int l5), (6, .int (nI x1))]) zx zb dX12_learnt_117 hl (k := 8) rfl (nI_inc _ 1) (by decide) rfl (fun ls hl => ?_)
                        refine lv_goto (tgt := 76) zx zb dX12_learnt_120 (by decide) ?_
                        exact ih76 (j + 1) (a ||| 0) (by omega) (by first | exact wS_y ha c_92 (isw_t (by omega) c_103) | exact wS_n1 ha c_92 | exact wS_n2 ha (isw_f (by omega) c_103)) (by omega) _ _ hP hD hS _ (lv_sub hl [2, 3, 4, 5, 6, 7, 8, 1, 0] rfl)
                      · have c_92 : hasB (fitW C Y k 16) j = true := (shrB (by omega)).mp c_92
                        refine lv_aload_n zx zb dX12_learnt_95 rfl (lv_at hl 0 rfl) ?_
                        refine lv_iload zx zb dX12_learnt_96 (lv_at hl 6 rfl) ?_
                        refine lv_iload zx zb dX12_learnt_98 (lv_at hl 8 rfl) ?_
                        refine call_Vi (As := [.int (nI x1), .int (nI j)]) (rest := [.int a]) XX cv_X12_270 (c_X12_isWetBy Γ l m M b C tr Y pc P (nI x1) (nI j) (hr) (hI)) hP hD hS hA [0, 1] (by decide) rfl (fun _ => rfl) 0 0 rfl rfl rfl rfl hl.1 rfl ⟨⟨by decide, by decide⟩, by decide, by decide⟩ (Nat.le_of_ble_eq_true rfl) dX12_learnt_100 (fun r_100 u H locs hw hP hD hS => ?_)
                        have hw := hw.symm
                        subst hw
                        have hP : bP Γ [bMo Γ m M, bA Γ (m 1) 259 b, bA Γ (m 6) 3 f] H := hP
                        have hD : bD AA [bMo Γ m M, bA Γ (m 1) 259 b, bA Γ (m 6) 3 f] := hD
                        refine lv_if_eq (tgt := 113) zx zb dX12_learnt_103 (by decide) (fun c_103 => ?_) (fun c_103 => ?_)
                        · have c_103 : (decide ((wetB C Y (nI j) >>> ((nI x1) &&& 31)) &&& 1 = 1)) = false := bI_0.mp c_103
                          refine lv_iconst (v := nI 0) zx zb dX12_learnt_113 (by decide) ?_
                          refine lv_ior zx zb dX12_learnt_114 ?_
                          refine g_top (y := a ||| 0) rfl ?_
                          refine lv_istore (lv' := [(7, .int (a ||| 0)), (0, .ref (m 0)), (1, .int k), (2, .int w), (3, .int (fitW C Y k 16)), (4, .int g4), (5, .int l5), (6, .int (nI x1)), (8, .int (nI j))]) zx zb dX12_learnt_115 hl (by decide) rfl (fun ls hl => ?_)
                          refine lv_iinc (v := nI (j + 1)) (lv' := [(8, .int (nI (j + 1))), (7, .int (a ||| 0)), (0, .ref (m 0)), (1, .int k), (2, .int w), (3, .int (fitW C Y k 16)), (4, .int g4), (5, .int l5), (6, .int (nI x1))]) zx zb dX12_learnt_117 hl (k := 8) rfl (nI_inc _ 1) (by decide) rfl (fun ls hl => ?_)
                          refine lv_goto (tgt := 76) zx zb dX12_learnt_120 (by decide) ?_
                          exact ih76 (j + 1) (a ||| 0) (by omega) (by first | exact wS_y ha c_92 (isw_t (by omega) c_103) | exact wS_n1 ha c_92 | exact wS_n2 ha (isw_f (by omega) c_103)) (by omega) _ _ hP hD hS _ (lv_sub hl [2, 3, 4, 5, 6, 7, 8, 1, 0] rfl)
                        · have c_103 : (decide ((wetB C Y (nI j) >>> ((nI x1) &&& 31)) &&& 1 = 1)) = true := bI_ne c_103
                          refine lv_iconst (v := nI 1) zx zb dX12_learnt_106 (by decide) ?_
                          refine lv_iload zx zb dX12_learnt_107 (lv_at hl 8 rfl) ?_
                          refine lv_ishl zx zb dX12_learnt_109 ?_
                          refine g_top (y := bit j) (sh31l _ (by omega)) ?_
                          refine lv_goto (tgt := 114) zx zb dX12_learnt_110 (by decide) ?_
                          refine lv_ior zx zb dX12_learnt_114 ?_
                          refine lv_istore (lv' := [(7, .int (a ||| (bit j))), (0, .ref (m 0)), (1, .int k), (2, .int w), (3, .int (fitW C Y k 16)), (4, .int g4), (5, .int l5), (6, .int (nI x1)), (8, .int (nI j))]) zx zb dX12_learnt_115 hl (by decide) rfl (fun ls hl => ?_)
                          refine lv_iinc (v := nI (j + 1)) (lv' := [(8, .int (nI (j + 1))), (7, .int (a ||| (bit j))), (0, .ref (m 0)), (1, .int k), (2, .int w), (3, .int (fitW C Y k 16)), (4, .int g4), (5, .int l5), (6, .int (nI x1))]) zx zb dX12_learnt_117 hl (k := 8) rfl (nI_inc _ 1) (by decide) rfl (fun ls hl => ?_)
                          refine lv_goto (tgt := 76) zx zb dX12_learnt_120 (by decide) ?_
                          exact ih76 (j + 1) (a ||| (bit j)) (by omega) (by first | exact wS_y ha c_92 (isw_t (by omega) c_103) | exact wS_n1 ha c_92 | exact wS_n2 ha (isw_f (by omega) c_103)) (by omega) _ _ hP hD hS _ (lv_sub hl [2, 3, 4, 5, 6, 7, 8, 1, 0] rfl)
                exact L76 _ 0 0 (by omega) (rfl) (Nat.lt_succ_self _) _ _ hP hD hS _ (lv_sub hl [2, 3, 4, 5, 6, 7, 8, 1, 0] rfl)
        exact L55 _ 0 (-1) 100 (by omega) (Or.inl ⟨rfl, rfl, rfl⟩) (Nat.lt_succ_self _) _ _ hP hD hS _ (lv_sub hl [4, 5, 6, 3, 2, 1, 0] rfl)
      · have c_37 : w = (0 : Int32) := c_37
        refine lv_iload_n zx zb dX12_learnt_40 rfl (lv_at hl 0 rfl) ?_
        refine callR_Si (As := [.int (fitW C Y k 16)]) (rest := []) XX cs_X12_276 (c_X12_many Γ l (fitW C Y k 16) ) hP hD hS hA nil_mem nil_D rfl hl.1 rfl ⟨⟨by decide, by decide⟩, by decide, by decide⟩ (Nat.le_of_ble_eq_true rfl) dX12_learnt_41 (fun r_41 H locs hw hP hS => ?_)
        have hw := hw.symm
        subst hw
        exact fin _ _ (bitsN ((fitW C Y k 16) &&& 255) 8 + bitsN ((fitW C Y k 16) >>> 8) 8) f 44 _ dX12_learnt_44 (fun h => by cases h) ⟨(ln_0 (lnk_3 c_9 c_19) c_37), (mo_t (lnk_3 c_9 c_19))⟩ hP hD hS
    · have c_19 : (wi w 0 1) = false := bI_0.mp c_19
      refine lv_aload_n zx zb dX12_learnt_22 rfl (lv_at hl 0 rfl) ?_
      refine lv_iconst (v := nI 0) zx zb dX12_learnt_23 (by decide) ?_
      refine lv_bipush (v := (-10)) zx zb dX12_learnt_24 (by decide) ?_
      refine call_Vi (As := [.int (nI 0), .int (-10)]) (rest := []) XX cv_X12_49 (c_X12_refuses Γ l m M f 0 (-10) (by decide)) hP hD hS hA [0, 2] (by decide) rfl (fun _ => rfl) 0 0 rfl rfl rfl rfl hl.1 rfl ⟨⟨by decide, by decide⟩, by decide, by decide⟩ (Nat.le_of_ble_eq_true rfl) dX12_learnt_26 (fun r_26 u H locs hw hP hD hS => ?_)
      obtain ⟨hw1, hw2⟩ := hw
      have hw1 := hw1.symm
      have hw2 := hw2.symm
      subst hw1
      subst hw2
      have hP : bP Γ [bMo Γ m M, bA Γ (m 1) 259 b, bA Γ (m 6) 3 (moRef M f 0)] H := hP
      have hD : bD AA [bMo Γ m M, bA Γ (m 1) 259 b, bA Γ (m 6) 3 (moRef M f 0)] := hD
      exact fin _ _ (-10) (moRef M f 0) 29 _ dX12_learnt_29 (fun h => by cases h) ⟨(by first | exact ln_b (lnk_1 c_9) | exact ln_b (lnk_2 c_19)), (by first | exact mo_f (lnk_1 c_9) | exact mo_f (lnk_2 c_19))⟩ hP hD hS
