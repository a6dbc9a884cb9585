theorem cv_X12_234 : CWV RX12 234 RX12 yX12_holdsRow cX12_holdsRow 2 none 0 := ⟨cd_X12_holdsRow, im_X12_holdsRow, se_X12_X12_holdsRow_X12_holdsRow, in_X12, ml_X12_234, by decide +kernel⟩
theorem cv_X12_237 : CWV RX12 237 RX12 yX12_tellsThen cX12_tellsThen 6 (some (.int)) 2 := ⟨cd_X12_tellsThen, im_X12_tellsThen, se_X12_X12_tellsThen_X12_tellsThen, in_X12, ml_X12_237, by decide +kernel⟩
theorem cv_X12_240 : CWV RX12 240 RX12 yX12_laysBack cX12_laysBack 2 none 0 := ⟨cd_X12_laysBack, im_X12_laysBack, se_X12_X12_laysBack_X12_laysBack, in_X12, ml_X12_240, by decide +kernel⟩
theorem cv_X12_243 : CWV RX12 243 RX12 yX12_isSomeLost cX12_isSomeLost 3 (some (.boolean)) 0 := ⟨cd_X12_isSomeLost, im_X12_isSomeLost, se_X12_X12_isSomeLost_X12_isSomeLost, in_X12, ml_X12_243, by decide +kernel⟩
theorem cv_X12_251 : CWV RX12 251 RX12 yX12_floodsIn cX12_floodsIn 4 (some (.int)) 1 := ⟨cd_X12_floodsIn, im_X12_floodsIn, se_X12_X12_floodsIn_X12_floodsIn, in_X12, ml_X12_251, by decide +kernel⟩
set_option maxHeartbeats 4000000 in
set_option maxRecDepth 100000 in
theorem c_X12_tellsThen (Γ : GG) (l : Launch) (m : Nat → Nat) (M : MoV) (b : Nat → Int32) (C : CoV) (tr : Nat → TrV) (Y : YrV) (pc : Nat) (P : Nat → YrV) (w : Int32) (f : Int32) (hr : Rel b C tr Y pc P) (hI : Inv C tr Y) (hV : InvY C Y) : Ci Γ l yX12_tellsThen cX12_tellsThen 6 (some (.int)) 3 65 0 0 [.ref (m 0), .int w, .int f] [bMo Γ m M, bA Γ (m 1) 259 b] (fun (r : Int32) (u : Unit) => r = outV C Y f w) (fun (u : Unit) => [bMo Γ m M, bA Γ (m 1) 259 b]) := by
  refine Ci.of (Or.inl rfl) (by decide) (Nat.le_of_ble_eq_true rfl) ?_
  intro pp ee ss mm bb me cd AA QQ XX hnm hA hP hD fin ls hl
  obtain ⟨zx, zb, hml, hown, hts, hK⟩ := id XX
  have hS : va_S AA ss.heap ss.heap [] := va_S.rf
  have hl : lv_has ls 6 [(0, .ref (m 0)), (1, .int w), (2, .int f)] := hl
  have htc := inv_tc hI
  have hdc := inv_dc hI
  have hn := inv_n hI
  refine lv_iconst (v := nI 0) zx zb dX12_tellsThen_0 (by decide) ?_
  refine lv_istore_n (lv' := [(3, .int (nI 0)), (0, .ref (m 0)), (1, .int w), (2, .int f)]) zx zb dX12_tellsThen_1 rfl hl (by decide) rfl (fun ls hl => ?_)
  refine lv_iconst (v := nI 0) zx zb dX12_tellsThen_2 (by decide) ?_
  refine lv_istore (lv' := [(4, .int (nI 0)), (3, .int (nI 0)), (0, .ref (m 0)), (1, .int w), (2, .int f)]) zx zb dX12_tellsThen_3 hl (by decide) rfl (fun ls hl => ?_)
  refine lv_iconst (v := nI 0) zx zb dX12_tellsThen_5 (by decide) ?_
  refine lv_istore (lv' := [(5, .int (nI 0)), (4, .int (nI 0)), (3, .int (nI 0)), (0, .ref (m 0)), (1, .int w), (2, .int f)]) zx zb dX12_tellsThen_6 hl (by decide) rfl (fun ls hl => ?_)
  have L8 : ∀ (nn : Nat) (x1 : Nat) (a : Int32), (x1 ≤ C.1) → (a = yrLostB Y x1) → C.1 - x1 < nn → ∀ (H : Heap) (locs : List Loc), bP Γ [bMo Γ m M, bA Γ (m 1) 259 b] H → bD AA [bMo Γ m M, bA Γ (m 1) 259 b] → va_S AA ss.heap H locs → ∀ (ls : Array Slot), lv_has ls 6 [(0, .ref (m 0)), (1, .int w), (2, .int f), (3, .int a), (4, .int (nI 0)), (5, .int (nI x1))] → W pp l ee { frames := 3, cells := 0, slots := 0, locals := 65 } ss mm [.ref (m 0), .int w, .int f].toArray bb me cd H locs 0 0 QQ (F0 mm 8 ls []) := by
    intro nn
    induction nn with
    | zero => intro x1 a hx ha hm; exact absurd hm (Nat.not_lt_zero _)
    | succ nn ih8 =>
      intro x1 a hx ha hm8 H locs hP hD hS ls hl
      refine lv_iload zx zb dX12_tellsThen_8 (lv_at hl 5 rfl) ?_
      refine lv_aload_n zx zb dX12_tellsThen_10 rfl (lv_at hl 0 rfl) ?_
      refine g_get (v := .ref (m 1)) XX hP 0 0 rfl rfl rfl iwX12 0 (by decide) fl_X12_7 rfl dX12_tellsThen_11 ?_
      refine lv_iconst (v := nI 0) zx zb dX12_tellsThen_14 (by decide) ?_
      refine g_ialdN (i := 0) XX hP 1 0 rfl rfl (by omega) (by decide) dX12_tellsThen_15 ?_
      refine g_top (y := nI (C.1)) (Rel.n hr) ?_
      refine lv_icmp_ge (tgt := 45) zx zb dX12_tellsThen_16 (by decide) (fun c_16 => ?_) (fun c_16 => ?_)
      · have c_16 : C.1 ≤ x1 := (nI_leI (a := C.1) (b := x1) (by omega) (by omega)).mp c_16
        refine lv_iconst (v := nI 0) zx zb dX12_tellsThen_45 (by decide) ?_
        refine lv_istore (lv' := [(5, .int (nI 0)), (0, .ref (m 0)), (1, .int w), (2, .int f), (3, .int a), (4, .int (nI 0))]) zx zb dX12_tellsThen_46 hl (by decide) rfl (fun ls hl => ?_)
        have L48 : ∀ (nn : Nat) (t : Nat) (a2 : Int32), (t ≤ C.2.2.2.2.2.2.1) → (a2 = brB Y t) → C.2.2.2.2.2.2.1 - t < nn → ∀ (H : Heap) (locs : List Loc), bP Γ [bMo Γ m M, bA Γ (m 1) 259 b] H → bD AA [bMo Γ m M, bA Γ (m 1) 259 b] → va_S AA ss.heap H locs → ∀ (ls : Array Slot), lv_has ls 6 [(0, .ref (m 0)), (1, .int w), (2, .int f), (3, .int a), (4, .int a2), (5, .int (nI t))] → W pp l ee { frames := 3, cells := 0, slots := 0, locals := 65 } ss mm [.ref (m 0), .int w, .int f].toArray bb me cd H locs 0 0 QQ (F0 mm 48 ls []) := by
          intro nn
          induction nn with
          | zero => intro t a2 ht ha2 hm; exact absurd hm (Nat.not_lt_zero _)
          | succ nn ih48 =>
            intro t a2 ht ha2 hm48 H locs hP hD hS ls hl
            refine lv_iload zx zb dX12_tellsThen_48 (lv_at hl 5 rfl) ?_
            refine lv_aload_n zx zb dX12_tellsThen_50 rfl (lv_at hl 0 rfl) ?_
            refine g_get (v := .ref (m 1)) XX hP 0 0 rfl rfl rfl iwX12 0 (by decide) fl_X12_7 rfl dX12_tellsThen_51 ?_
            refine lv_iconst (v := nI 4) zx zb dX12_tellsThen_54 (by decide) ?_
            refine g_ialdN (i := 4) XX hP 1 0 rfl rfl (by omega) (by decide) dX12_tellsThen_55 ?_
            refine g_top (y := nI (C.2.2.2.2.2.2.1)) (Rel.tc hr) ?_
            refine lv_icmp_ge (tgt := 85) zx zb dX12_tellsThen_56 (by decide) (fun c_56 => ?_) (fun c_56 => ?_)
            · have c_56 : C.2.2.2.2.2.2.1 ≤ t := (nI_leI (a := C.2.2.2.2.2.2.1) (b := t) (by omega) (by omega)).mp c_56
              refine lv_iload_n zx zb dX12_tellsThen_85 rfl (lv_at hl 1 rfl) ?_
              refine lv_iconst (v := nI 3) zx zb dX12_tellsThen_86 (by decide) ?_
              refine lv_icmp_ne (tgt := 100) zx zb dX12_tellsThen_87 (by decide) (fun c_87 => ?_) (fun c_87 => ?_)
              · have c_87 : ¬ (w = (3 : Int32)) := c_87
                refine lv_iload zx zb dX12_tellsThen_100 (lv_at hl 4 rfl) ?_
                refine lv_istore (lv' := [(5, .int a2), (0, .ref (m 0)), (1, .int w), (2, .int f), (3, .int a), (4, .int a2)]) zx zb dX12_tellsThen_102 hl (by decide) rfl (fun ls hl => ?_)
                refine lv_iload_n zx zb dX12_tellsThen_104 rfl (lv_at hl 2 rfl) ?_
                refine lv_if_ne (tgt := 117) zx zb dX12_tellsThen_105 (by decide) (fun c_105 => ?_) (fun c_105 => ?_)
                · have c_105 : ¬ (w = (0 : Int32)) := c_105
                  refine lv_iload_n zx zb dX12_tellsThen_117 rfl (lv_at hl 2 rfl) ?_
                  refine lv_iconst (v := nI 1) zx zb dX12_tellsThen_118 (by decide) ?_
                  refine lv_icmp_ne (tgt := 126) zx zb dX12_tellsThen_119 (by decide) (fun c_119 => ?_) (fun c_119 => ?_)
                  · have c_119 : ¬ (w = (1 : Int32)) := c_119
                    refine lv_iload_n zx zb dX12_tellsThen_126 rfl (lv_at hl 2 rfl) ?_
                    refine lv_iconst (v := nI 2) zx zb dX12_tellsThen_127 (by decide) ?_
                    refine lv_icmp_ne (tgt := 135) zx zb dX12_tellsThen_128 (by decide) (fun c_128 => ?_) (fun c_128 => ?_)
                    · have c_128 : ¬ (w = (2 : Int32)) := c_128
                      refine lv_iload zx zb dX12_tellsThen_135 (lv_at hl 0 rfl) ?_
                      exact fin _ _ a2 () 137 _ dX12_tellsThen_137 (fun h => by cases h) (by have et : t = C.2.2.2.2.2.2.1 := (by omega); subst et; unfold outV; rw [if_neg c_105, if_neg c_119, if_neg c_128, if_neg c_87, ha2]; exact brB_all hV htc) hP hD hS
                    · have c_128 : w = (2 : Int32) := c_128
                      refine lv_iload_n zx zb dX12_tellsThen_131 rfl (lv_at hl 4 rfl) ?_
                      refine lv_goto (tgt := 137) zx zb dX12_tellsThen_132 (by decide) ?_
                      exact fin _ _ a () 137 _ dX12_tellsThen_137 (fun h => by cases h) (by have ex : x1 = C.1 := (by omega); subst ex; unfold outV; rw [if_neg c_105, if_neg c_119, if_pos c_128, ha]; exact (lostB_8 hV hn (Nat.le_refl 8)).symm) hP hD hS
                  · have c_119 : w = (1 : Int32) := c_119
                    refine lv_iload_n zx zb dX12_tellsThen_122 rfl (lv_at hl 3 rfl) ?_
                    refine lv_goto (tgt := 137) zx zb dX12_tellsThen_123 (by decide) ?_
                    exact fin _ _ f () 137 _ dX12_tellsThen_137 (fun h => by cases h) (by unfold outV; rw [if_neg c_105, if_pos c_119]) hP hD hS
                · have c_105 : w = (0 : Int32) := c_105
                  refine lv_aload_n zx zb dX12_tellsThen_108 rfl (lv_at hl 1 rfl) ?_
                  refine g_get (v := .ref (m 1)) XX hP 0 0 rfl rfl rfl iwX12 0 (by decide) fl_X12_7 rfl dX12_tellsThen_109 ?_
                  refine lv_iconst (v := nI 2) zx zb dX12_tellsThen_112 (by decide) ?_
                  refine g_ialdN (i := 2) XX hP 1 0 rfl rfl (by omega) (by decide) dX12_tellsThen_113 ?_
                  refine g_top (y := Y.2.1) (Rel.be hr) ?_
                  refine lv_goto (tgt := 137) zx zb dX12_tellsThen_114 (by decide) ?_
                  exact fin _ _ Y.2.1 () 137 _ dX12_tellsThen_137 (fun h => by cases h) (by unfold outV; rw [if_pos c_105]) hP hD hS
              · have c_87 : w = (3 : Int32) := c_87
                refine lv_aload_n zx zb dX12_tellsThen_90 rfl (lv_at hl 0 rfl) ?_
                refine lv_sipush (v := nI 255) zx zb dX12_tellsThen_91 (by decide) ?_
                refine call_Vi (As := [.int (nI 255)]) (rest := []) XX cv_X12_229 (c_X12_worthOf Γ l m M b C tr Y pc P 255 (hr) (hI)) hP hD hS hA [0, 1] (by decide) rfl (fun _ => rfl) 0 0 rfl rfl rfl rfl hl.1 rfl ⟨⟨by decide, by decide⟩, by decide, by decide⟩ (Nat.le_of_ble_eq_true rfl) dX12_tellsThen_94 (fun r_94 u H locs hw hP hD hS => ?_)
                have hw := hw.symm
                subst hw
                have hP : bP Γ [bMo Γ m M, bA Γ (m 1) 259 b] H := hP
                have hD : bD AA [bMo Γ m M, bA Γ (m 1) 259 b] := hD
                refine lv_goto (tgt := 102) zx zb dX12_tellsThen_97 (by decide) ?_
                refine lv_istore (lv' := [(5, .int (stWorth C Y 255)), (0, .ref (m 0)), (1, .int w), (2, .int f), (3, .int a), (4, .int a2)]) zx zb dX12_tellsThen_102 hl (by decide) rfl (fun ls hl => ?_)
                refine lv_iload_n zx zb dX12_tellsThen_104 rfl (lv_at hl 2 rfl) ?_
                refine lv_if_ne (tgt := 117) zx zb dX12_tellsThen_105 (by decide) (fun c_105 => ?_) (fun c_105 => ?_)
                · have c_105 : ¬ (w = (0 : Int32)) := c_105
                  refine lv_iload_n zx zb dX12_tellsThen_117 rfl (lv_at hl 2 rfl) ?_
                  refine lv_iconst (v := nI 1) zx zb dX12_tellsThen_118 (by decide) ?_
                  refine lv_icmp_ne (tgt := 126) zx zb dX12_tellsThen_119 (by decide) (fun c_119 => ?_) (fun c_119 => ?_)
                  · have c_119 : ¬ (w = (1 : Int32)) := c_119
                    refine lv_iload_n zx zb dX12_tellsThen_126 rfl (lv_at hl 2 rfl) ?_
                    refine lv_iconst (v := nI 2) zx zb dX12_tellsThen_127 (by decide) ?_
                    refine lv_icmp_ne (tgt := 135) zx zb dX12_tellsThen_128 (by decide) (fun c_128 => ?_) (fun c_128 => ?_)
                    · have c_128 : ¬ (w = (2 : Int32)) := c_128
                      refine lv_iload zx zb dX12_tellsThen_135 (lv_at hl 0 rfl) ?_
                      exact fin _ _ (stWorth C Y 255) () 137 _ dX12_tellsThen_137 (fun h => by cases h) (by unfold outV; rw [if_neg c_105, if_neg c_119, if_neg c_128, if_pos c_87]; exact worth_255 hn) hP hD hS
                    · have c_128 : w = (2 : Int32) := c_128
                      refine lv_iload_n zx zb dX12_tellsThen_131 rfl (lv_at hl 4 rfl) ?_
                      refine lv_goto (tgt := 137) zx zb dX12_tellsThen_132 (by decide) ?_
                      exact fin _ _ a () 137 _ dX12_tellsThen_137 (fun h => by cases h) (by rw [c_128] at c_87; exact absurd c_87 (by decide)) hP hD hS
                  · have c_119 : w = (1 : Int32) := c_119
                    refine lv_iload_n zx zb dX12_tellsThen_122 rfl (lv_at hl 3 rfl) ?_
                    refine lv_goto (tgt := 137) zx zb dX12_tellsThen_123 (by decide) ?_
                    exact fin _ _ f () 137 _ dX12_tellsThen_137 (fun h => by cases h) (by rw [c_119] at c_87; exact absurd c_87 (by decide)) hP hD hS
                · have c_105 : w = (0 : Int32) := c_105
                  refine lv_aload_n zx zb dX12_tellsThen_108 rfl (lv_at hl 1 rfl) ?_
                  refine g_get (v := .ref (m 1)) XX hP 0 0 rfl rfl rfl iwX12 0 (by decide) fl_X12_7 rfl dX12_tellsThen_109 ?_
                  refine lv_iconst (v := nI 2) zx zb dX12_tellsThen_112 (by decide) ?_
                  refine g_ialdN (i := 2) XX hP 1 0 rfl rfl (by omega) (by decide) dX12_tellsThen_113 ?_
                  refine g_top (y := Y.2.1) (Rel.be hr) ?_
                  refine lv_goto (tgt := 137) zx zb dX12_tellsThen_114 (by decide) ?_
                  exact fin _ _ Y.2.1 () 137 _ dX12_tellsThen_137 (fun h => by cases h) (by rw [c_105] at c_87; exact absurd c_87 (by decide)) hP hD hS
            · have c_56 : ¬ (C.2.2.2.2.2.2.1 ≤ t) := fun h => c_56 ((nI_leI (a := C.2.2.2.2.2.2.1) (b := t) (by omega) (by omega)).mpr h)
              refine lv_iload zx zb dX12_tellsThen_59 (lv_at hl 4 rfl) ?_
              refine lv_aload_n zx zb dX12_tellsThen_61 rfl (lv_at hl 0 rfl) ?_
              refine g_get (v := .ref (m 1)) XX hP 0 0 rfl rfl rfl iwX12 0 (by decide) fl_X12_7 rfl dX12_tellsThen_62 ?_
              refine lv_iload zx zb dX12_tellsThen_65 (lv_at hl 5 rfl) ?_
              refine lv_bipush (v := nI 6) zx zb dX12_tellsThen_67 (by decide) ?_
              refine callR_Si (As := [.int (nI t), .int (nI 6)]) (rest := [.ref (m 1), .int a2]) XX cs_X12_96 (c_X12_of0 Γ l t 6 ) hP hD hS hA nil_mem nil_D rfl hl.1 rfl ⟨⟨by decide, by decide⟩, by decide, by decide⟩ (Nat.le_of_ble_eq_true rfl) dX12_tellsThen_69 (fun r_69 H locs hw hP hS => ?_)
              have hw := hw.symm
              subst hw
              refine g_ialdN (i := 55 + 7 * t + 6) XX hP 1 0 rfl rfl (by omega) (by decide) dX12_tellsThen_72 ?_
              refine g_top (y := bI (yrBr Y t)) (Rel.t6 hr (by omega)) ?_
              refine lv_iload zx zb dX12_tellsThen_73 (lv_at hl 5 rfl) ?_
              refine lv_ishl zx zb dX12_tellsThen_75 ?_
              refine g_top (y := (bI (yrBr Y t)) <<< (nI t)) (sh31l _ (by omega)) ?_
              refine lv_ior zx zb dX12_tellsThen_76 ?_
              refine lv_istore (lv' := [(4, .int (a2 ||| ((bI (yrBr Y t)) <<< (nI t)))), (0, .ref (m 0)), (1, .int w), (2, .int f), (3, .int a), (5, .int (nI t))]) zx zb dX12_tellsThen_77 hl (by decide) rfl (fun ls hl => ?_)
              refine lv_iinc (v := nI (t + 1)) (lv' := [(5, .int (nI (t + 1))), (4, .int (a2 ||| ((bI (yrBr Y t)) <<< (nI t)))), (0, .ref (m 0)), (1, .int w), (2, .int f), (3, .int a)]) zx zb dX12_tellsThen_79 hl (k := 5) rfl (nI_inc _ 1) (by decide) rfl (fun ls hl => ?_)
              refine lv_goto (tgt := 48) zx zb dX12_tellsThen_82 (by decide) ?_
              exact ih48 (t + 1) (a2 ||| ((bI (yrBr Y t)) <<< (nI t))) (by omega) (by rw [brB, ← ha2]) (by omega) _ _ hP hD hS _ (lv_sub hl [2, 3, 4, 5, 1, 0] rfl)
        exact L48 _ 0 0 (by omega) (rfl) (Nat.lt_succ_self _) _ _ hP hD hS _ (lv_sub hl [1, 2, 3, 4, 5, 0] rfl)
      · have c_16 : ¬ (C.1 ≤ x1) := fun h => c_16 ((nI_leI (a := C.1) (b := x1) (by omega) (by omega)).mpr h)
        refine lv_iload_n zx zb dX12_tellsThen_19 rfl (lv_at hl 3 rfl) ?_
        refine lv_aload_n zx zb dX12_tellsThen_20 rfl (lv_at hl 0 rfl) ?_
        refine lv_iload zx zb dX12_tellsThen_21 (lv_at hl 5 rfl) ?_
        refine call_Vi (As := [.int (nI x1)]) (rest := [.int a]) XX cv_X12_206 (c_X12_isLost Γ l m M b C tr Y pc P x1 (hr) (by omega)) hP hD hS hA [0, 1] (by decide) rfl (fun _ => rfl) 0 0 rfl rfl rfl rfl hl.1 rfl ⟨⟨by decide, by decide⟩, by decide, by decide⟩ (Nat.le_of_ble_eq_true rfl) dX12_tellsThen_23 (fun r_23 u H locs hw hP hD hS => ?_)
        have hw := hw.symm
        subst hw
        have hP : bP Γ [bMo Γ m M, bA Γ (m 1) 259 b] H := hP
        have hD : bD AA [bMo Γ m M, bA Γ (m 1) 259 b] := hD
        refine lv_if_eq (tgt := 36) zx zb dX12_tellsThen_26 (by decide) (fun c_26 => ?_) (fun c_26 => ?_)
        · have c_26 : (yrLost Y x1) = false := bI_0.mp c_26
          refine lv_iconst (v := nI 0) zx zb dX12_tellsThen_36 (by decide) ?_
          refine lv_ior zx zb dX12_tellsThen_37 ?_
          refine g_top (y := a ||| 0) rfl ?_
          refine lv_istore_n (lv' := [(3, .int (a ||| 0)), (0, .ref (m 0)), (1, .int w), (2, .int f), (4, .int (nI 0)), (5, .int (nI x1))]) zx zb dX12_tellsThen_38 rfl hl (by decide) rfl (fun ls hl => ?_)
          refine lv_iinc (v := nI (x1 + 1)) (lv' := [(5, .int (nI (x1 + 1))), (3, .int (a ||| 0)), (0, .ref (m 0)), (1, .int w), (2, .int f), (4, .int (nI 0))]) zx zb dX12_tellsThen_39 hl (k := 5) rfl (nI_inc _ 1) (by decide) rfl (fun ls hl => ?_)
          refine lv_goto (tgt := 8) zx zb dX12_tellsThen_42 (by decide) ?_
          exact ih8 (x1 + 1) (a ||| 0) (by omega) (by first | exact lost_s ha c_26 | exact lost_n ha c_26) (by omega) _ _ hP hD hS _ (lv_sub hl [2, 3, 4, 1, 5, 0] rfl)
        · have c_26 : (yrLost Y x1) = true := bI_ne c_26
          refine lv_iconst (v := nI 1) zx zb dX12_tellsThen_29 (by decide) ?_
          refine lv_iload zx zb dX12_tellsThen_30 (lv_at hl 5 rfl) ?_
          refine lv_ishl zx zb dX12_tellsThen_32 ?_
          refine g_top (y := bit x1) (sh31l _ (by omega)) ?_
          refine lv_goto (tgt := 37) zx zb dX12_tellsThen_33 (by decide) ?_
          refine lv_ior zx zb dX12_tellsThen_37 ?_
          refine lv_istore_n (lv' := [(3, .int (a ||| (bit x1))), (0, .ref (m 0)), (1, .int w), (2, .int f), (4, .int (nI 0)), (5, .int (nI x1))]) zx zb dX12_tellsThen_38 rfl hl (by decide) rfl (fun ls hl => ?_)
          refine lv_iinc (v := nI (x1 + 1)) (lv' := [(5, .int (nI (x1 + 1))), (3, .int (a ||| (bit x1))), (0, .ref (m 0)), (1, .int w), (2, .int f), (4, .int (nI 0))]) zx zb dX12_tellsThen_39 hl (k := 5) rfl (nI_inc _ 1) (by decide) rfl (fun ls hl => ?_)
          refine lv_goto (tgt := 8) zx zb dX12_tellsThen_42 (by decide) ?_
          exact ih8 (x1 + 1) (a ||| (bit x1)) (by omega) (by first | exact lost_s ha c_26 | exact lost_n ha c_26) (by omega) _ _ hP hD hS _ (lv_sub hl [2, 3, 4, 1, 5, 0] rfl)
  exact L8 _ 0 0 (by omega) (rfl) (Nat.lt_succ_self _) _ _ hP hD hS _ (lv_sub hl [3, 4, 5, 2, 1, 0] rfl)

set_option maxHeartbeats 4000000 in
set_option maxRecDepth 100000 in
theorem c_X12_firstLost (Γ : GG) (l : Launch) (m : Nat → Nat) (M : MoV) (b : Nat → Int32) (C : CoV) (tr : Nat → TrV) (Y : YrV) (pc : Nat) (P : Nat → YrV) (hh : Nat → Int32) (y : Nat) (hr : Rel b C tr Y pc P) (hI : Inv C tr Y) (hV : InvY C Y) (hpc : pc ≤ 6) (hy : Y.1 = nI y) (hyb : y + 30 < 1000000) : Ci Γ l yX12_firstLost cX12_firstLost 4 (some (.int)) 4 98 0 0 [.ref (m 0)] [bMo Γ m M, bA Γ (m 1) 259 b, bA Γ (m 5) 259 hh] (fun (r : Int32) (u : (Nat → Int32) × (Nat → Int32)) => r = flR C tr Y ∧ Rel u.1 C tr Y pc P) (fun (u : (Nat → Int32) × (Nat → Int32)) => [bMo Γ m M, bA Γ (m 1) 259 u.1, bA Γ (m 5) 259 u.2]) := by
  refine Ci.of (Or.inl rfl) (by decide) (Nat.le_of_ble_eq_true rfl) ?_
  intro pp ee ss mm bb me cd AA QQ XX hnm hA hP hD fin ls hl
  obtain ⟨zx, zb, hml, hown, hts, hK⟩ := id XX
  have hS : va_S AA ss.heap ss.heap [] := va_S.rf
  have hl : lv_has ls 4 [(0, .ref (m 0))] := hl
  have htc := inv_tc hI
  have hdc := inv_dc hI
  have hn := inv_n hI
  refine lv_aload_n zx zb dX12_firstLost_0 rfl (lv_at hl 0 rfl) ?_
  refine g_get (v := .ref (m 1)) XX hP 0 0 rfl rfl rfl iwX12 0 (by decide) fl_X12_7 rfl dX12_firstLost_1 ?_
  refine lv_iconst (v := nI 1) zx zb dX12_firstLost_4 (by decide) ?_
  refine g_ialdN (i := 1) XX hP 1 0 rfl rfl (by omega) (by decide) dX12_firstLost_5 ?_
  refine g_top (y := Y.1) (Rel.y hr) ?_
  refine lv_istore_n (lv' := [(1, .int Y.1), (0, .ref (m 0))]) zx zb dX12_firstLost_6 rfl hl (by decide) rfl (fun ls hl => ?_)
  refine lv_aload_n zx zb dX12_firstLost_7 rfl (lv_at hl 1 rfl) ?_
  refine call_Vi (As := []) (rest := []) XX cv_X12_243 (c_X12_isSomeLost Γ l m M b C tr Y pc P (hr) (hI)) hP hD hS hA [0, 1] (by decide) rfl (fun _ => rfl) 0 0 rfl rfl rfl rfl hl.1 rfl ⟨⟨by decide, by decide⟩, by decide, by decide⟩ (Nat.le_of_ble_eq_true rfl) dX12_firstLost_8 (fun r_8 u H locs hw hP hD hS => ?_)
  have hw := hw.symm
  subst hw
  have hP : bP Γ [bMo Γ m M, bA Γ (m 1) 259 b, bA Γ (m 5) 259 hh] H := hP
  have hD : bD AA [bMo Γ m M, bA Γ (m 1) 259 b, bA Γ (m 5) 259 hh] := hD
  refine lv_if_eq (tgt := 16) zx zb dX12_firstLost_11 (by decide) (fun c_11 => ?_) (fun c_11 => ?_)
  · have c_11 : (lostN Y C.1) = false := bI_0.mp c_11
    refine lv_aload_n zx zb dX12_firstLost_16 rfl (lv_at hl 1 rfl) ?_
    refine call_Vv (As := []) (rest := []) XX cv_X12_234 (c_X12_holdsRow Γ l m M b hh ) hP hD hS hA [0, 1, 2] (by decide) rfl (fun _ => rfl) 0 0 rfl rfl rfl rfl hl.1 rfl ⟨⟨by decide, by decide⟩, by decide, by decide⟩ (Nat.le_of_ble_eq_true rfl) dX12_firstLost_17 (fun u H locs hw hP hD hS => ?_)
    obtain ⟨u_17, rfl⟩ : ∃ z, z = u := ⟨_, rfl⟩
    have w_17 := hw
    have hP : bP Γ [bMo Γ m M, bA Γ (m 1) 259 b, bA Γ (m 5) 259 u_17] H := hP
    have hD : bD AA [bMo Γ m M, bA Γ (m 1) 259 b, bA Γ (m 5) 259 u_17] := hD
    refine lv_iconst (v := (-1)) zx zb dX12_firstLost_20 (by decide) ?_
    refine lv_istore_n (lv' := [(2, .int (-1)), (1, .int Y.1), (0, .ref (m 0))]) zx zb dX12_firstLost_21 rfl hl (by decide) rfl (fun ls hl => ?_)
    refine lv_iconst (v := nI 0) zx zb dX12_firstLost_22 (by decide) ?_
    refine lv_istore_n (lv' := [(3, .int (nI 0)), (2, .int (-1)), (1, .int Y.1), (0, .ref (m 0))]) zx zb dX12_firstLost_23 rfl hl (by decide) rfl (fun ls hl => ?_)
    have L24 : ∀ (nn : Nat) (i : Nat) (a : Int32) (b1 : Nat → Int32), (i ≤ 30) → (fG C tr Y i a) → (Rel b1 C tr (runM C tr Y i) pc P) → 30 - i < nn → ∀ (H : Heap) (locs : List Loc), bP Γ [bMo Γ m M, bA Γ (m 1) 259 b1, bA Γ (m 5) 259 u_17] H → bD AA [bMo Γ m M, bA Γ (m 1) 259 b1, bA Γ (m 5) 259 u_17] → va_S AA ss.heap H locs → ∀ (ls : Array Slot), lv_has ls 4 [(0, .ref (m 0)), (1, .int Y.1), (2, .int a), (3, .int (nI i))] → W pp l ee { frames := 4, cells := 0, slots := 0, locals := 98 } ss mm [.ref (m 0)].toArray bb me cd H locs 0 0 QQ (F0 mm 24 ls []) := by
      intro nn
      induction nn with
      | zero => intro i a b1 hi hg hr1 hm; exact absurd hm (Nat.not_lt_zero _)
      | succ nn ih24 =>
        intro i a b1 hi hg hr1 hm24 H locs hP hD hS ls hl
        have hIZ : Inv C tr (runM C tr Y i) := inv_run hI hy (by omega)
        refine lv_iload_n zx zb dX12_firstLost_24 rfl (lv_at hl 3 rfl) ?_
        refine lv_bipush (v := nI 30) zx zb dX12_firstLost_25 (by decide) ?_
        refine lv_icmp_ge (tgt := 71) zx zb dX12_firstLost_27 (by decide) (fun c_27 => ?_) (fun c_27 => ?_)
        · have c_27 : 30 ≤ i := (nI_leI (a := 30) (b := i) (by omega) (by omega)).mp c_27
          refine lv_aload_n zx zb dX12_firstLost_71 rfl (lv_at hl 0 rfl) ?_
          refine call_Vv (As := []) (rest := []) XX cv_X12_240 (c_X12_laysBack Γ l m M b1 u_17 ) hP hD hS hA [0, 1, 2] (by decide) rfl (fun _ => rfl) 0 0 rfl rfl rfl rfl hl.1 rfl ⟨⟨by decide, by decide⟩, by decide, by decide⟩ (Nat.le_of_ble_eq_true rfl) dX12_firstLost_72 (fun u H locs hw hP hD hS => ?_)
          obtain ⟨u_72, rfl⟩ : ∃ z, z = u := ⟨_, rfl⟩
          have w_72 := hw
          have hP : bP Γ [bMo Γ m M, bA Γ (m 1) 259 u_72, bA Γ (m 5) 259 u_17] H := hP
          have hD : bD AA [bMo Γ m M, bA Γ (m 1) 259 u_72, bA Γ (m 5) 259 u_17] := hD
          refine lv_iload_n zx zb dX12_firstLost_75 rfl (lv_at hl 2 rfl) ?_
          exact fin _ _ a (u_72, u_17) 76 _ dX12_firstLost_76 (fun h => by cases h) (⟨fl_end hn hV hy hyb c_11 hg hi (by first | exact Or.inr c_32 | exact Or.inl (by omega)), Rel_cpy (fun k hk => (w_72 k hk).trans (w_17 k hk)) hr htc hdc hpc⟩) hP hD hS
        · have c_27 : ¬ (30 ≤ i) := fun h => c_27 ((nI_leI (a := 30) (b := i) (by omega) (by omega)).mpr h)
          refine lv_iload_n zx zb dX12_firstLost_30 rfl (lv_at hl 2 rfl) ?_
          refine lv_iconst (v := (-1)) zx zb dX12_firstLost_31 (by decide) ?_
          refine lv_icmp_ne (tgt := 71) zx zb dX12_firstLost_32 (by decide) (fun c_32 => ?_) (fun c_32 => ?_)
          · have c_32 : ¬ (a = (-1)) := c_32
            refine lv_aload_n zx zb dX12_firstLost_71 rfl (lv_at hl 0 rfl) ?_
            refine call_Vv (As := []) (rest := []) XX cv_X12_240 (c_X12_laysBack Γ l m M b1 u_17 ) hP hD hS hA [0, 1, 2] (by decide) rfl (fun _ => rfl) 0 0 rfl rfl rfl rfl hl.1 rfl ⟨⟨by decide, by decide⟩, by decide, by decide⟩ (Nat.le_of_ble_eq_true rfl) dX12_firstLost_72 (fun u H locs hw hP hD hS => ?_)
            obtain ⟨u_72, rfl⟩ : ∃ z, z = u := ⟨_, rfl⟩
            have w_72 := hw
            have hP : bP Γ [bMo Γ m M, bA Γ (m 1) 259 u_72, bA Γ (m 5) 259 u_17] H := hP
            have hD : bD AA [bMo Γ m M, bA Γ (m 1) 259 u_72, bA Γ (m 5) 259 u_17] := hD
            refine lv_iload_n zx zb dX12_firstLost_75 rfl (lv_at hl 2 rfl) ?_
            exact fin _ _ a (u_72, u_17) 76 _ dX12_firstLost_76 (fun h => by cases h) (⟨fl_end hn hV hy hyb c_11 hg hi (by first | exact Or.inr c_32 | exact Or.inl (by omega)), Rel_cpy (fun k hk => (w_72 k hk).trans (w_17 k hk)) hr htc hdc hpc⟩) hP hD hS
          · have c_32 : a = (-1) := c_32
            have gn := fG_no hy hyb hg c_32
            have hr2 := hr1
            refine lv_aload_n zx zb dX12_firstLost_35 rfl (lv_at hl 0 rfl) ?_
            refine lv_aload_n zx zb dX12_firstLost_36 rfl (lv_at hl 0 rfl) ?_
            refine lv_aload_n zx zb dX12_firstLost_37 rfl (lv_at hl 0 rfl) ?_
            refine g_get (v := .ref (m 1)) XX hP 0 0 rfl rfl rfl iwX12 0 (by decide) fl_X12_7 rfl dX12_firstLost_38 ?_
            refine lv_iconst (v := nI 1) zx zb dX12_firstLost_41 (by decide) ?_
            refine g_ialdN (i := 1) XX hP 1 0 rfl rfl (by omega) (by decide) dX12_firstLost_42 ?_
            refine g_top (y := (runM C tr Y i).1) (Rel.y hr1) ?_
            refine call_Vi (As := [.int ((runM C tr Y i).1)]) (rest := [.ref (m 0)]) XX cv_X12_215 (c_X12_stormOf Γ l m M b1 C tr (runM C tr Y i) pc P ((runM C tr Y i).1) (hr1) (hIZ) (inv_y hIZ)) hP hD hS hA [0, 1] (by decide) rfl (fun _ => rfl) 0 0 rfl rfl rfl rfl hl.1 rfl ⟨⟨by decide, by decide⟩, by decide, by decide⟩ (Nat.le_of_ble_eq_true rfl) dX12_firstLost_43 (fun r_43 u H locs hw hP hD hS => ?_)
            have hw := hw.symm
            subst hw
            have hP : bP Γ [bMo Γ m M, bA Γ (m 1) 259 b1, bA Γ (m 5) 259 u_17] H := hP
            have hD : bD AA [bMo Γ m M, bA Γ (m 1) 259 b1, bA Γ (m 5) 259 u_17] := hD
            refine call_Vi (As := [.int (coStorm C ((runM C tr Y i).1))]) (rest := []) XX cv_X12_218 (c_X12_goes Γ l m M b1 C tr (runM C tr Y i) pc P (coStorm C ((runM C tr Y i).1)) (hr1) (hIZ)) hP hD hS hA [0, 1] (by decide) rfl (fun _ => rfl) 0 0 rfl rfl rfl rfl hl.1 rfl ⟨⟨by decide, by decide⟩, by decide, by decide⟩ (Nat.le_of_ble_eq_true rfl) dX12_firstLost_46 (fun r_46 u H locs hw hP hD hS => ?_)
            obtain ⟨u_46, rfl⟩ : ∃ z, z = u := ⟨_, rfl⟩
            have w_46 := hw
            have hP : bP Γ [bMo Γ m M, bA Γ (m 1) 259 u_46, bA Γ (m 5) 259 u_17] H := hP
            have hD : bD AA [bMo Γ m M, bA Γ (m 1) 259 u_46, bA Γ (m 5) 259 u_17] := hD
            refine lv_pop zx zb dX12_firstLost_49 rfl ?_
            refine lv_aload_n zx zb dX12_firstLost_50 rfl (lv_at hl 0 rfl) ?_
            refine call_Vi (As := []) (rest := []) XX cv_X12_243 (c_X12_isSomeLost Γ l m M u_46 C tr (runM C tr Y (i + 1)) pc P (w_46.2) (inv_run hI hy (by omega))) hP hD hS hA [0, 1] (by decide) rfl (fun _ => rfl) 0 0 rfl rfl rfl rfl hl.1 rfl ⟨⟨by decide, by decide⟩, by decide, by decide⟩ (Nat.le_of_ble_eq_true rfl) dX12_firstLost_51 (fun r_51 u H locs hw hP hD hS => ?_)
            have hw := hw.symm
            subst hw
            have hP : bP Γ [bMo Γ m M, bA Γ (m 1) 259 u_46, bA Γ (m 5) 259 u_17] H := hP
            have hD : bD AA [bMo Γ m M, bA Γ (m 1) 259 u_46, bA Γ (m 5) 259 u_17] := hD
            refine lv_if_eq (tgt := 63) zx zb dX12_firstLost_54 (by decide) (fun c_54 => ?_) (fun c_54 => ?_)
            · have c_54 : (lostN (runM C tr Y (i + 1)) C.1) = false := bI_0.mp c_54
              refine lv_iconst (v := (-1)) zx zb dX12_firstLost_63 (by decide) ?_
              refine lv_istore_n (lv' := [(2, .int (-1)), (0, .ref (m 0)), (1, .int Y.1), (3, .int (nI i))]) zx zb dX12_firstLost_64 rfl hl (by decide) rfl (fun ls hl => ?_)
              refine lv_iinc (v := nI (i + 1)) (lv' := [(3, .int (nI (i + 1))), (2, .int (-1)), (0, .ref (m 0)), (1, .int Y.1)]) zx zb dX12_firstLost_65 hl (k := 3) rfl (nI_inc _ 1) (by decide) rfl (fun ls hl => ?_)
              refine lv_goto (tgt := 24) zx zb dX12_firstLost_68 (by decide) ?_
              exact ih24 (i + 1) (-1) u_46 (by omega) (by first | exact fG_y gn (by omega) ((flP_eq hn hV htc).trans c_54) | exact fG_n gn ((flP_eq hn hV htc).trans c_54)) (w_46.2) (by omega) _ _ hP hD hS _ (lv_sub hl [2, 3, 1, 0] rfl)
            · have c_54 : (lostN (runM C tr Y (i + 1)) C.1) = true := bI_ne c_54
              refine lv_iload_n zx zb dX12_firstLost_57 rfl (lv_at hl 1 rfl) ?_
              refine lv_iload_n zx zb dX12_firstLost_58 rfl (lv_at hl 3 rfl) ?_
              refine lv_iadd zx zb dX12_firstLost_59 ?_
              refine lv_goto (tgt := 64) zx zb dX12_firstLost_60 (by decide) ?_
              refine lv_istore_n (lv' := [(2, .int (Y.1 + (nI i))), (0, .ref (m 0)), (1, .int Y.1), (3, .int (nI i))]) zx zb dX12_firstLost_64 rfl hl (by decide) rfl (fun ls hl => ?_)
              refine lv_iinc (v := nI (i + 1)) (lv' := [(3, .int (nI (i + 1))), (2, .int (Y.1 + (nI i))), (0, .ref (m 0)), (1, .int Y.1)]) zx zb dX12_firstLost_65 hl (k := 3) rfl (nI_inc _ 1) (by decide) rfl (fun ls hl => ?_)
              refine lv_goto (tgt := 24) zx zb dX12_firstLost_68 (by decide) ?_
              exact ih24 (i + 1) (Y.1 + (nI i)) u_46 (by omega) (by first | exact fG_y gn (by omega) ((flP_eq hn hV htc).trans c_54) | exact fG_n gn ((flP_eq hn hV htc).trans c_54)) (w_46.2) (by omega) _ _ hP hD hS _ (lv_sub hl [2, 3, 1, 0] rfl)
    exact L24 _ 0 (-1) b (by omega) (Or.inl ⟨rfl, fun j hj => absurd hj (Nat.not_lt_zero _)⟩) (hr) (Nat.lt_succ_self _) _ _ hP hD hS _ (lv_sub hl [3, 2, 1, 0] rfl)
  · have c_11 : (lostN Y C.1) = true := bI_ne c_11
    refine lv_iload_n zx zb dX12_firstLost_14 rfl (lv_at hl 0 rfl) ?_
    exact fin _ _ Y.1 (b, hh) 15 _ dX12_firstLost_15 (fun h => by cases h) (⟨fl_now hn hV c_11, hr⟩) hP hD hS

set_option maxHeartbeats 4000000 in
set_option maxRecDepth 100000 in
theorem c_X12_then (Γ : GG) (l : Launch) (m : Nat → Nat) (M : MoV) (b : Nat → Int32) (C : CoV) (tr : Nat → TrV) (Y : YrV) (pc : Nat) (P : Nat → YrV) (hh : Nat → Int32) (f : Nat → Int32) (y : Nat) (n : Int32) (w : Int32) (hr : Rel b C tr Y pc P) (hI : Inv C tr Y) (hV : InvY C Y) (hpc : pc ≤ 6) (hy : Y.1 = nI y) (hyb : y + 30 < 1000000) : Ci Γ l yX12_then cX12_then 5 (some (.int)) 4 98 0 0 [.ref (m 0), .int n, .int w] [bMo Γ m M, bA Γ (m 1) 259 b, bA Γ (m 5) 259 hh, bA Γ (m 6) 3 f] (fun (r : Int32) (u : (Nat → Int32) × (Nat → Int32) × (Nat → Int32)) => r = thR C tr Y n w ∧ Rel u.1 C tr Y pc P ∧ u.2.2 = moV M f (thOk n w)) (fun (u : (Nat → Int32) × (Nat → Int32) × (Nat → Int32)) => [bMo Γ m M, bA Γ (m 1) 259 u.1, bA Γ (m 5) 259 u.2.1, bA Γ (m 6) 3 u.2.2]) := by
  refine Ci.of (Or.inl rfl) (by decide) (Nat.le_of_ble_eq_true rfl) ?_
  intro pp ee ss mm bb me cd AA QQ XX hnm hA hP hD fin ls hl
  obtain ⟨zx, zb, hml, hown, hts, hK⟩ := id XX
  have hS : va_S AA ss.heap ss.heap [] := va_S.rf
  have hl : lv_has ls 5 [(0, .ref (m 0)), (1, .int n), (2, .int w)] := hl
  have htc := inv_tc hI
  have hdc := inv_dc hI
  have hn := inv_n hI
  refine lv_iload_n zx zb dX12_then_0 rfl (lv_at hl 1 rfl) ?_
  refine lv_i2l (v := n.toInt64) zx zb dX12_then_1 rfl ?_
  refine lv_lconst (v := (0 : Int32).toInt64) zx zb dX12_then_2 (by decide) ?_
  refine lv_ldc2 zx zb hown (hts _ kl_X12_232) dX12_then_3 ?_
  refine g_topl (y := (30 : Int32).toInt64) (by decide) ?_
  refine callR_Si (As := [.long n.toInt64, .long ((0 : Int32).toInt64), .long ((30 : Int32).toInt64)]) (rest := []) XX cs_X12_53 (c_X12_in Γ l n 0 30 ) hP hD hS hA nil_mem nil_D rfl hl.1 rfl ⟨⟨by decide, by decide⟩, by decide, by decide⟩ (Nat.le_of_ble_eq_true rfl) dX12_then_6 (fun r_6 H locs hw hP hS => ?_)
  have hw := hw.symm
  subst hw
  refine lv_if_eq (tgt := 24) zx zb dX12_then_9 (by decide) (fun c_9 => ?_) (fun c_9 => ?_)
  · have c_9 : (wi n 0 30) = false := bI_0.mp c_9
    refine lv_aload_n zx zb dX12_then_24 rfl (lv_at hl 0 rfl) ?_
    refine call_Vi (As := []) (rest := []) XX cv_X12_59 (c_X12_bad Γ l m M f ) hP hD hS hA [0, 3] (by decide) rfl (fun _ => rfl) 0 0 rfl rfl rfl rfl hl.1 rfl ⟨⟨by decide, by decide⟩, by decide, by decide⟩ (Nat.le_of_ble_eq_true rfl) dX12_then_25 (fun r_25 u H locs hw hP hD hS => ?_)
    obtain ⟨hw1, hw2⟩ := hw
    have hw1 := hw1.symm
    have hw2 := hw2.symm
    subst hw1
    subst hw2
    have hP : bP Γ [bMo Γ m M, bA Γ (m 1) 259 b, bA Γ (m 5) 259 hh, bA Γ (m 6) 3 (moRef M f 0)] H := hP
    have hD : bD AA [bMo Γ m M, bA Γ (m 1) 259 b, bA Γ (m 5) 259 hh, bA Γ (m 6) 3 (moRef M f 0)] := hD
    exact fin _ _ (-2) (b, hh, (moRef M f 0)) 28 _ dX12_then_28 (fun h => by cases h) (by first | exact ⟨th_b (th_bad (Or.inl c_9)), hr, mo_f (th_bad (Or.inl c_9))⟩ | exact ⟨th_b (th_bad (Or.inr c_21)), hr, mo_f (th_bad (Or.inr c_21))⟩) hP hD hS
  · have c_9 : (wi n 0 30) = true := bI_ne c_9
    refine lv_iload_n zx zb dX12_then_12 rfl (lv_at hl 2 rfl) ?_
    refine lv_i2l (v := w.toInt64) zx zb dX12_then_13 rfl ?_
    refine lv_lconst (v := (0 : Int32).toInt64) zx zb dX12_then_14 (by decide) ?_
    refine lv_ldc2 zx zb hown (hts _ kl_X12_221) dX12_then_15 ?_
    refine g_topl (y := (4 : Int32).toInt64) (by decide) ?_
    refine callR_Si (As := [.long w.toInt64, .long ((0 : Int32).toInt64), .long ((4 : Int32).toInt64)]) (rest := []) XX cs_X12_53 (c_X12_in Γ l w 0 4 ) hP hD hS hA nil_mem nil_D rfl hl.1 rfl ⟨⟨by decide, by decide⟩, by decide, by decide⟩ (Nat.le_of_ble_eq_true rfl) dX12_then_18 (fun r_18 H locs hw hP hS => ?_)
    have hw := hw.symm
    subst hw
    refine lv_if_ne (tgt := 29) zx zb dX12_then_21 (by decide) (fun c_21 => ?_) (fun c_21 => ?_)
    · have c_21 : (wi w 0 4) = true := bI_ne c_21
      obtain ⟨j, hj, rfl⟩ := wi_nat 0 30 c_9 rfl rfl (by decide)
      refine lv_aload_n zx zb dX12_then_29 rfl (lv_at hl 0 rfl) ?_
      refine call_Vv (As := []) (rest := []) XX cv_X12_234 (c_X12_holdsRow Γ l m M b hh ) hP hD hS hA [0, 1, 2] (by decide) rfl (fun _ => rfl) 0 0 rfl rfl rfl rfl hl.1 rfl ⟨⟨by decide, by decide⟩, by decide, by decide⟩ (Nat.le_of_ble_eq_true rfl) dX12_then_30 (fun u H locs hw hP hD hS => ?_)
      obtain ⟨u_30, rfl⟩ : ∃ z, z = u := ⟨_, rfl⟩
      have w_30 := hw
      have hP : bP Γ [bMo Γ m M, bA Γ (m 1) 259 b, bA Γ (m 5) 259 u_30, bA Γ (m 6) 3 f] H := hP
      have hD : bD AA [bMo Γ m M, bA Γ (m 1) 259 b, bA Γ (m 5) 259 u_30, bA Γ (m 6) 3 f] := hD
      refine lv_iconst (v := nI 0) zx zb dX12_then_33 (by decide) ?_
      refine lv_istore_n (lv' := [(3, .int (nI 0)), (0, .ref (m 0)), (1, .int (nI j)), (2, .int w)]) zx zb dX12_then_34 rfl hl (by decide) rfl (fun ls hl => ?_)
      refine lv_iconst (v := nI 0) zx zb dX12_then_35 (by decide) ?_
      refine lv_istore (lv' := [(4, .int (nI 0)), (3, .int (nI 0)), (0, .ref (m 0)), (1, .int (nI j)), (2, .int w)]) zx zb dX12_then_36 hl (by decide) rfl (fun ls hl => ?_)
      have L38 : ∀ (nn : Nat) (i : Nat) (a : Int32) (b1 : Nat → Int32), (i ≤ j) → (a = runF C tr Y i) → (Rel b1 C tr (runM C tr Y i) pc P) → j - i < nn → ∀ (H : Heap) (locs : List Loc), bP Γ [bMo Γ m M, bA Γ (m 1) 259 b1, bA Γ (m 5) 259 u_30, bA Γ (m 6) 3 f] H → bD AA [bMo Γ m M, bA Γ (m 1) 259 b1, bA Γ (m 5) 259 u_30, bA Γ (m 6) 3 f] → va_S AA ss.heap H locs → ∀ (ls : Array Slot), lv_has ls 5 [(0, .ref (m 0)), (1, .int (nI j)), (2, .int w), (3, .int a), (4, .int (nI i))] → W pp l ee { frames := 4, cells := 0, slots := 0, locals := 98 } ss mm [.ref (m 0), .int (nI j), .int w].toArray bb me cd H locs 0 0 QQ (F0 mm 38 ls []) := by
        intro nn
        induction nn with
        | zero => intro i a b1 hi ha hr1 hm; exact absurd hm (Nat.not_lt_zero _)
        | succ nn ih38 =>
          intro i a b1 hi ha hr1 hm38 H locs hP hD hS ls hl
          have hIZ : Inv C tr (runM C tr Y i) := inv_run hI hy (by omega)
          refine lv_iload zx zb dX12_then_38 (lv_at hl 4 rfl) ?_
          refine lv_iload_n zx zb dX12_then_40 rfl (lv_at hl 1 rfl) ?_
          refine lv_icmp_ge (tgt := 65) zx zb dX12_then_41 (by decide) (fun c_41 => ?_) (fun c_41 => ?_)
          · have c_41 : j ≤ i := (nI_leI (a := j) (b := i) (by omega) (by omega)).mp c_41
            refine lv_aload_n zx zb dX12_then_65 rfl (lv_at hl 0 rfl) ?_
            refine lv_iload_n zx zb dX12_then_66 rfl (lv_at hl 2 rfl) ?_
            refine lv_iload_n zx zb dX12_then_67 rfl (lv_at hl 3 rfl) ?_
            refine call_Vi (As := [.int w, .int a]) (rest := []) XX cv_X12_237 (c_X12_tellsThen Γ l m M b1 C tr (runM C tr Y i) pc P w a (hr1) (hIZ) (invY_run hV htc)) hP hD hS hA [0, 1] (by decide) rfl (fun _ => rfl) 0 0 rfl rfl rfl rfl hl.1 rfl ⟨⟨by decide, by decide⟩, by decide, by decide⟩ (Nat.le_of_ble_eq_true rfl) dX12_then_68 (fun r_68 u H locs hw hP hD hS => ?_)
            have hw := hw.symm
            subst hw
            have hP : bP Γ [bMo Γ m M, bA Γ (m 1) 259 b1, bA Γ (m 5) 259 u_30, bA Γ (m 6) 3 f] H := hP
            have hD : bD AA [bMo Γ m M, bA Γ (m 1) 259 b1, bA Γ (m 5) 259 u_30, bA Γ (m 6) 3 f] := hD
            refine lv_istore (lv' := [(4, .int (outV C (runM C tr Y i) a w)), (0, .ref (m 0)), (1, .int (nI j)), (2, .int w), (3, .int a)]) zx zb dX12_then_71 hl (by decide) rfl (fun ls hl => ?_)
            refine lv_aload_n zx zb dX12_then_73 rfl (lv_at hl 1 rfl) ?_
            refine call_Vv (As := []) (rest := []) XX cv_X12_240 (c_X12_laysBack Γ l m M b1 u_30 ) hP hD hS hA [0, 1, 2] (by decide) rfl (fun _ => rfl) 0 0 rfl rfl rfl rfl hl.1 rfl ⟨⟨by decide, by decide⟩, by decide, by decide⟩ (Nat.le_of_ble_eq_true rfl) dX12_then_74 (fun u H locs hw hP hD hS => ?_)
            obtain ⟨u_74, rfl⟩ : ∃ z, z = u := ⟨_, rfl⟩
            have w_74 := hw
            have hP : bP Γ [bMo Γ m M, bA Γ (m 1) 259 u_74, bA Γ (m 5) 259 u_30, bA Γ (m 6) 3 f] H := hP
            have hD : bD AA [bMo Γ m M, bA Γ (m 1) 259 u_74, bA Γ (m 5) 259 u_30, bA Γ (m 6) 3 f] := hD
            refine lv_iload zx zb dX12_then_77 (lv_at hl 0 rfl) ?_
            exact fin _ _ (outV C (runM C tr Y i) a w) (u_74, u_30, f) 79 _ dX12_then_79 (fun h => by cases h) (⟨by have ej : i = j := (by omega); subst ej; rw [ha]; exact th_ok (by omega) c_9 c_21, Rel_cpy (fun k hk => (w_74 k hk).trans (w_30 k hk)) hr htc hdc hpc, mo_t (by unfold thOk; rw [c_9, c_21]; rfl)⟩) hP hD hS
          · have c_41 : ¬ (j ≤ i) := fun h => c_41 ((nI_leI (a := j) (b := i) (by omega) (by omega)).mpr h)
            refine lv_aload_n zx zb dX12_then_44 rfl (lv_at hl 0 rfl) ?_
            refine lv_aload_n zx zb dX12_then_45 rfl (lv_at hl 0 rfl) ?_
            refine lv_aload_n zx zb dX12_then_46 rfl (lv_at hl 0 rfl) ?_
            refine g_get (v := .ref (m 1)) XX hP 0 0 rfl rfl rfl iwX12 0 (by decide) fl_X12_7 rfl dX12_then_47 ?_
            refine lv_iconst (v := nI 1) zx zb dX12_then_50 (by decide) ?_
            refine g_ialdN (i := 1) XX hP 1 0 rfl rfl (by omega) (by decide) dX12_then_51 ?_
            refine g_top (y := (runM C tr Y i).1) (Rel.y hr1) ?_
            refine call_Vi (As := [.int ((runM C tr Y i).1)]) (rest := [.ref (m 0)]) XX cv_X12_215 (c_X12_stormOf Γ l m M b1 C tr (runM C tr Y i) pc P ((runM C tr Y i).1) (hr1) (hIZ) (inv_y hIZ)) hP hD hS hA [0, 1] (by decide) rfl (fun _ => rfl) 0 0 rfl rfl rfl rfl hl.1 rfl ⟨⟨by decide, by decide⟩, by decide, by decide⟩ (Nat.le_of_ble_eq_true rfl) dX12_then_52 (fun r_52 u H locs hw hP hD hS => ?_)
            have hw := hw.symm
            subst hw
            have hP : bP Γ [bMo Γ m M, bA Γ (m 1) 259 b1, bA Γ (m 5) 259 u_30, bA Γ (m 6) 3 f] H := hP
            have hD : bD AA [bMo Γ m M, bA Γ (m 1) 259 b1, bA Γ (m 5) 259 u_30, bA Γ (m 6) 3 f] := hD
            refine call_Vi (As := [.int (coStorm C ((runM C tr Y i).1))]) (rest := []) XX cv_X12_218 (c_X12_goes Γ l m M b1 C tr (runM C tr Y i) pc P (coStorm C ((runM C tr Y i).1)) (hr1) (hIZ)) hP hD hS hA [0, 1] (by decide) rfl (fun _ => rfl) 0 0 rfl rfl rfl rfl hl.1 rfl ⟨⟨by decide, by decide⟩, by decide, by decide⟩ (Nat.le_of_ble_eq_true rfl) dX12_then_55 (fun r_55 u H locs hw hP hD hS => ?_)
            obtain ⟨u_55, rfl⟩ : ∃ z, z = u := ⟨_, rfl⟩
            have w_55 := hw
            have hP : bP Γ [bMo Γ m M, bA Γ (m 1) 259 u_55, bA Γ (m 5) 259 u_30, bA Γ (m 6) 3 f] H := hP
            have hD : bD AA [bMo Γ m M, bA Γ (m 1) 259 u_55, bA Γ (m 5) 259 u_30, bA Γ (m 6) 3 f] := hD
            refine lv_istore_n (lv' := [(3, .int r_55), (0, .ref (m 0)), (1, .int (nI j)), (2, .int w), (4, .int (nI i))]) zx zb dX12_then_58 rfl hl (by decide) rfl (fun ls hl => ?_)
            refine lv_iinc (v := nI (i + 1)) (lv' := [(4, .int (nI (i + 1))), (3, .int r_55), (0, .ref (m 0)), (1, .int (nI j)), (2, .int w)]) zx zb dX12_then_59 hl (k := 4) rfl (nI_inc _ 1) (by decide) rfl (fun ls hl => ?_)
            refine lv_goto (tgt := 38) zx zb dX12_then_62 (by decide) ?_
            exact ih38 (i + 1) r_55 u_55 (by omega) (w_55.1) (w_55.2) (by omega) _ _ hP hD hS _ (lv_sub hl [2, 3, 4, 1, 0] rfl)
      exact L38 _ 0 0 b (by omega) (rfl) (hr) (Nat.lt_succ_self _) _ _ hP hD hS _ (lv_sub hl [2, 3, 4, 1, 0] rfl)
    · have c_21 : (wi w 0 4) = false := bI_0.mp c_21
      refine lv_aload_n zx zb dX12_then_24 rfl (lv_at hl 0 rfl) ?_
      refine call_Vi (As := []) (rest := []) XX cv_X12_59 (c_X12_bad Γ l m M f ) hP hD hS hA [0, 3] (by decide) rfl (fun _ => rfl) 0 0 rfl rfl rfl rfl hl.1 rfl ⟨⟨by decide, by decide⟩, by decide, by decide⟩ (Nat.le_of_ble_eq_true rfl) dX12_then_25 (fun r_25 u H locs hw hP hD hS => ?_)
      obtain ⟨hw1, hw2⟩ := hw
      have hw1 := hw1.symm
      have hw2 := hw2.symm
      subst hw1
      subst hw2
      have hP : bP Γ [bMo Γ m M, bA Γ (m 1) 259 b, bA Γ (m 5) 259 hh, bA Γ (m 6) 3 (moRef M f 0)] H := hP
      have hD : bD AA [bMo Γ m M, bA Γ (m 1) 259 b, bA Γ (m 5) 259 hh, bA Γ (m 6) 3 (moRef M f 0)] := hD
      exact fin _ _ (-2) (b, hh, (moRef M f 0)) 28 _ dX12_then_28 (fun h => by cases h) (by first | exact ⟨th_b (th_bad (Or.inl c_9)), hr, mo_f (th_bad (Or.inl c_9))⟩ | exact ⟨th_b (th_bad (Or.inr c_21)), hr, mo_f (th_bad (Or.inr c_21))⟩) hP hD hS

set_option maxHeartbeats 4000000 in
set_option maxRecDepth 100000 in
theorem c_X12_drawn (Γ : GG) (l : Launch) (m : Nat → Nat) (M : MoV) (b : Nat → Int32) (C : CoV) (tr : Nat → TrV) (Y : YrV) (pc : Nat) (P : Nat → YrV) (hh : Nat → Int32) (f : Nat → Int32) (y : Nat) (n : Int32) (q : Int32) (w : Int32) (hr : Rel b C tr Y pc P) (hI : Inv C tr Y) (hV : InvY C Y) (hpc : pc ≤ 6) (hy : Y.1 = nI y) (hyb : y + 30 < 1000000) : Ci Γ l yX12_drawn cX12_drawn 9 (some (.int)) 4 98 0 0 [.ref (m 0), .int n, .int q, .int w] [bMo Γ m M, bA Γ (m 1) 259 b, bA Γ (m 5) 259 hh, bA Γ (m 6) 3 f] (fun (r : Int32) (u : (Nat → Int32) × (Nat → Int32) × (Nat → Int32)) => r = dwR C tr Y n q w ∧ Rel u.1 C tr Y pc P ∧ u.2.2 = moV M f (dwOk n q w)) (fun (u : (Nat → Int32) × (Nat → Int32) × (Nat → Int32)) => [bMo Γ m M, bA Γ (m 1) 259 u.1, bA Γ (m 5) 259 u.2.1, bA Γ (m 6) 3 u.2.2]) := by
  refine Ci.of (Or.inl rfl) (by decide) (Nat.le_of_ble_eq_true rfl) ?_
  intro pp ee ss mm bb me cd AA QQ XX hnm hA hP hD fin ls hl
  obtain ⟨zx, zb, hml, hown, hts, hK⟩ := id XX
  have hS : va_S AA ss.heap ss.heap [] := va_S.rf
  have hl : lv_has ls 9 [(0, .ref (m 0)), (1, .int n), (2, .int q), (3, .int w)] := hl
  have htc := inv_tc hI
  have hdc := inv_dc hI
  have hn := inv_n hI
  refine lv_iload_n zx zb dX12_drawn_0 rfl (lv_at hl 1 rfl) ?_
  refine lv_i2l (v := n.toInt64) zx zb dX12_drawn_1 rfl ?_
  refine lv_lconst (v := (0 : Int32).toInt64) zx zb dX12_drawn_2 (by decide) ?_
  refine lv_ldc2 zx zb hown (hts _ kl_X12_232) dX12_drawn_3 ?_
  refine g_topl (y := (30 : Int32).toInt64) (by decide) ?_
  refine callR_Si (As := [.long n.toInt64, .long ((0 : Int32).toInt64), .long ((30 : Int32).toInt64)]) (rest := []) XX cs_X12_53 (c_X12_in Γ l n 0 30 ) hP hD hS hA nil_mem nil_D rfl hl.1 rfl ⟨⟨by decide, by decide⟩, by decide, by decide⟩ (Nat.le_of_ble_eq_true rfl) dX12_drawn_6 (fun r_6 H locs hw hP hS => ?_)
  have hw := hw.symm
  subst hw
  refine lv_if_eq (tgt := 36) zx zb dX12_drawn_9 (by decide) (fun c_9 => ?_) (fun c_9 => ?_)
  · have c_9 : (wi n 0 30) = false := bI_0.mp c_9
    refine lv_aload_n zx zb dX12_drawn_36 rfl (lv_at hl 0 rfl) ?_
    refine call_Vi (As := []) (rest := []) XX cv_X12_59 (c_X12_bad Γ l m M f ) hP hD hS hA [0, 3] (by decide) rfl (fun _ => rfl) 0 0 rfl rfl rfl rfl hl.1 rfl ⟨⟨by decide, by decide⟩, by decide, by decide⟩ (Nat.le_of_ble_eq_true rfl) dX12_drawn_37 (fun r_37 u H locs hw hP hD hS => ?_)
    obtain ⟨hw1, hw2⟩ := hw
    have hw1 := hw1.symm
    have hw2 := hw2.symm
    subst hw1
    subst hw2
    have hP : bP Γ [bMo Γ m M, bA Γ (m 1) 259 b, bA Γ (m 5) 259 hh, bA Γ (m 6) 3 (moRef M f 0)] H := hP
    have hD : bD AA [bMo Γ m M, bA Γ (m 1) 259 b, bA Γ (m 5) 259 hh, bA Γ (m 6) 3 (moRef M f 0)] := hD
    exact fin _ _ (-2) (b, hh, (moRef M f 0)) 40 _ dX12_drawn_40 (fun h => by cases h) (by first | exact ⟨dw_b (dw_1 c_9), hr, mo_f (dw_1 c_9)⟩ | exact ⟨dw_b (dw_2 c_21), hr, mo_f (dw_2 c_21)⟩ | exact ⟨dw_b (dw_3 c_33), hr, mo_f (dw_3 c_33)⟩) hP hD hS
  · have c_9 : (wi n 0 30) = true := bI_ne c_9
    refine lv_iload_n zx zb dX12_drawn_12 rfl (lv_at hl 2 rfl) ?_
    refine lv_i2l (v := q.toInt64) zx zb dX12_drawn_13 rfl ?_
    refine lv_lconst (v := (0 : Int32).toInt64) zx zb dX12_drawn_14 (by decide) ?_
    refine lv_ldc2 zx zb hown (hts _ kl_X12_278) dX12_drawn_15 ?_
    refine g_topl (y := (999999 : Int32).toInt64) (by decide) ?_
    refine callR_Si (As := [.long q.toInt64, .long ((0 : Int32).toInt64), .long ((999999 : Int32).toInt64)]) (rest := []) XX cs_X12_53 (c_X12_in Γ l q 0 999999 ) hP hD hS hA nil_mem nil_D rfl hl.1 rfl ⟨⟨by decide, by decide⟩, by decide, by decide⟩ (Nat.le_of_ble_eq_true rfl) dX12_drawn_18 (fun r_18 H locs hw hP hS => ?_)
    have hw := hw.symm
    subst hw
    refine lv_if_eq (tgt := 36) zx zb dX12_drawn_21 (by decide) (fun c_21 => ?_) (fun c_21 => ?_)
    · have c_21 : (wi q 0 999999) = false := bI_0.mp c_21
      refine lv_aload_n zx zb dX12_drawn_36 rfl (lv_at hl 0 rfl) ?_
      refine call_Vi (As := []) (rest := []) XX cv_X12_59 (c_X12_bad Γ l m M f ) hP hD hS hA [0, 3] (by decide) rfl (fun _ => rfl) 0 0 rfl rfl rfl rfl hl.1 rfl ⟨⟨by decide, by decide⟩, by decide, by decide⟩ (Nat.le_of_ble_eq_true rfl) dX12_drawn_37 (fun r_37 u H locs hw hP hD hS => ?_)
      obtain ⟨hw1, hw2⟩ := hw
      have hw1 := hw1.symm
      have hw2 := hw2.symm
      subst hw1
      subst hw2
      have hP : bP Γ [bMo Γ m M, bA Γ (m 1) 259 b, bA Γ (m 5) 259 hh, bA Γ (m 6) 3 (moRef M f 0)] H := hP
      have hD : bD AA [bMo Γ m M, bA Γ (m 1) 259 b, bA Γ (m 5) 259 hh, bA Γ (m 6) 3 (moRef M f 0)] := hD
      exact fin _ _ (-2) (b, hh, (moRef M f 0)) 40 _ dX12_drawn_40 (fun h => by cases h) (by first | exact ⟨dw_b (dw_1 c_9), hr, mo_f (dw_1 c_9)⟩ | exact ⟨dw_b (dw_2 c_21), hr, mo_f (dw_2 c_21)⟩ | exact ⟨dw_b (dw_3 c_33), hr, mo_f (dw_3 c_33)⟩) hP hD hS
    · have c_21 : (wi q 0 999999) = true := bI_ne c_21
      refine lv_iload_n zx zb dX12_drawn_24 rfl (lv_at hl 3 rfl) ?_
      refine lv_i2l (v := w.toInt64) zx zb dX12_drawn_25 rfl ?_
      refine lv_lconst (v := (0 : Int32).toInt64) zx zb dX12_drawn_26 (by decide) ?_
      refine lv_ldc2 zx zb hown (hts _ kl_X12_221) dX12_drawn_27 ?_
      refine g_topl (y := (4 : Int32).toInt64) (by decide) ?_
      refine callR_Si (As := [.long w.toInt64, .long ((0 : Int32).toInt64), .long ((4 : Int32).toInt64)]) (rest := []) XX cs_X12_53 (c_X12_in Γ l w 0 4 ) hP hD hS hA nil_mem nil_D rfl hl.1 rfl ⟨⟨by decide, by decide⟩, by decide, by decide⟩ (Nat.le_of_ble_eq_true rfl) dX12_drawn_30 (fun r_30 H locs hw hP hS => ?_)
      have hw := hw.symm
      subst hw
      refine lv_if_ne (tgt := 41) zx zb dX12_drawn_33 (by decide) (fun c_33 => ?_) (fun c_33 => ?_)
      · have c_33 : (wi w 0 4) = true := bI_ne c_33
        obtain ⟨j, hj, rfl⟩ := wi_nat 0 30 c_9 rfl rfl (by decide)
        refine lv_aload_n zx zb dX12_drawn_41 rfl (lv_at hl 0 rfl) ?_
        refine call_Vv (As := []) (rest := []) XX cv_X12_234 (c_X12_holdsRow Γ l m M b hh ) hP hD hS hA [0, 1, 2] (by decide) rfl (fun _ => rfl) 0 0 rfl rfl rfl rfl hl.1 rfl ⟨⟨by decide, by decide⟩, by decide, by decide⟩ (Nat.le_of_ble_eq_true rfl) dX12_drawn_42 (fun u H locs hw hP hD hS => ?_)
        obtain ⟨u_42, rfl⟩ : ∃ z, z = u := ⟨_, rfl⟩
        have w_42 := hw
        have hP : bP Γ [bMo Γ m M, bA Γ (m 1) 259 b, bA Γ (m 5) 259 u_42, bA Γ (m 6) 3 f] H := hP
        have hD : bD AA [bMo Γ m M, bA Γ (m 1) 259 b, bA Γ (m 5) 259 u_42, bA Γ (m 6) 3 f] := hD
        refine lv_iload_n zx zb dX12_drawn_45 rfl (lv_at hl 2 rfl) ?_
        refine lv_i2l (v := q.toInt64) zx zb dX12_drawn_46 rfl ?_
        refine lv_lstore (lv' := [(4, .long q.toInt64), (0, .ref (m 0)), (1, .int (nI j)), (2, .int q), (3, .int w)]) zx zb dX12_drawn_47 hl (by decide) rfl (fun ls hl => ?_)
        refine lv_iconst (v := nI 0) zx zb dX12_drawn_49 (by decide) ?_
        refine lv_istore (lv' := [(6, .int (nI 0)), (4, .long q.toInt64), (0, .ref (m 0)), (1, .int (nI j)), (2, .int q), (3, .int w)]) zx zb dX12_drawn_50 hl (by decide) rfl (fun ls hl => ?_)
        refine lv_iconst (v := nI 0) zx zb dX12_drawn_52 (by decide) ?_
        refine lv_istore (lv' := [(7, .int (nI 0)), (6, .int (nI 0)), (4, .long q.toInt64), (0, .ref (m 0)), (1, .int (nI j)), (2, .int q), (3, .int w)]) zx zb dX12_drawn_53 hl (by decide) rfl (fun ls hl => ?_)
        have L55 : ∀ (nn : Nat) (i : Nat) (h : Int64) (a : Int32) (b1 : Nat → Int32), (i ≤ j) → (h = drX q.toInt64 i) → (a = drF C tr Y q.toInt64 i) → (Rel b1 C tr (drM C tr Y q.toInt64 i) pc P) → j - i < nn → ∀ (H : Heap) (locs : List Loc), bP Γ [bMo Γ m M, bA Γ (m 1) 259 b1, bA Γ (m 5) 259 u_42, bA Γ (m 6) 3 f] H → bD AA [bMo Γ m M, bA Γ (m 1) 259 b1, bA Γ (m 5) 259 u_42, bA Γ (m 6) 3 f] → va_S AA ss.heap H locs → ∀ (ls : Array Slot), lv_has ls 9 [(0, .ref (m 0)), (1, .int (nI j)), (2, .int q), (3, .int w), (4, .long h), (6, .int a), (7, .int (nI i))] → W pp l ee { frames := 4, cells := 0, slots := 0, locals := 98 } ss mm [.ref (m 0), .int (nI j), .int q, .int w].toArray bb me cd H locs 0 0 QQ (F0 mm 55 ls []) := by
          intro nn
          induction nn with
          | zero => intro i h a b1 hi hx0 ha hr1 hm; exact absurd hm (Nat.not_lt_zero _)
          | succ nn ih55 =>
            intro i h a b1 hi hx0 ha hr1 hm55 H locs hP hD hS ls hl
            have hIZ : Inv C tr (drM C tr Y q.toInt64 i) := inv_dr hI hy (by omega)
            refine lv_iload zx zb dX12_drawn_55 (lv_at hl 6 rfl) ?_
            refine lv_iload_n zx zb dX12_drawn_57 rfl (lv_at hl 1 rfl) ?_
            refine lv_icmp_ge (tgt := 123) zx zb dX12_drawn_58 (by decide) (fun c_58 => ?_) (fun c_58 => ?_)
            · have c_58 : j ≤ i := (nI_leI (a := j) (b := i) (by omega) (by omega)).mp c_58
              refine lv_aload_n zx zb dX12_drawn_123 rfl (lv_at hl 0 rfl) ?_
              refine lv_iload_n zx zb dX12_drawn_124 rfl (lv_at hl 3 rfl) ?_
              refine lv_iload zx zb dX12_drawn_125 (lv_at hl 5 rfl) ?_
              refine call_Vi (As := [.int w, .int a]) (rest := []) XX cv_X12_237 (c_X12_tellsThen Γ l m M b1 C tr (drM C tr Y q.toInt64 i) pc P w a (hr1) (hIZ) (invY_dr hV htc)) hP hD hS hA [0, 1] (by decide) rfl (fun _ => rfl) 0 0 rfl rfl rfl rfl hl.1 rfl ⟨⟨by decide, by decide⟩, by decide, by decide⟩ (Nat.le_of_ble_eq_true rfl) dX12_drawn_127 (fun r_127 u H locs hw hP hD hS => ?_)
              have hw := hw.symm
              subst hw
              have hP : bP Γ [bMo Γ m M, bA Γ (m 1) 259 b1, bA Γ (m 5) 259 u_42, bA Γ (m 6) 3 f] H := hP
              have hD : bD AA [bMo Γ m M, bA Γ (m 1) 259 b1, bA Γ (m 5) 259 u_42, bA Γ (m 6) 3 f] := hD
              refine lv_istore (lv' := [(7, .int (outV C (drM C tr Y q.toInt64 i) a w)), (0, .ref (m 0)), (1, .int (nI j)), (2, .int q), (3, .int w), (4, .long h), (6, .int a)]) zx zb dX12_drawn_130 hl (by decide) rfl (fun ls hl => ?_)
              refine lv_aload_n zx zb dX12_drawn_132 rfl (lv_at hl 1 rfl) ?_
              refine call_Vv (As := []) (rest := []) XX cv_X12_240 (c_X12_laysBack Γ l m M b1 u_42 ) hP hD hS hA [0, 1, 2] (by decide) rfl (fun _ => rfl) 0 0 rfl rfl rfl rfl hl.1 rfl ⟨⟨by decide, by decide⟩, by decide, by decide⟩ (Nat.le_of_ble_eq_true rfl) dX12_drawn_133 (fun u H locs hw hP hD hS => ?_)
              obtain ⟨u_133, rfl⟩ : ∃ z, z = u := ⟨_, rfl⟩
              have w_133 := hw
              have hP : bP Γ [bMo Γ m M, bA Γ (m 1) 259 u_133, bA Γ (m 5) 259 u_42, bA Γ (m 6) 3 f] H := hP
              have hD : bD AA [bMo Γ m M, bA Γ (m 1) 259 u_133, bA Γ (m 5) 259 u_42, bA Γ (m 6) 3 f] := hD
              refine lv_iload zx zb dX12_drawn_136 (lv_at hl 0 rfl) ?_
              exact fin _ _ (outV C (drM C tr Y q.toInt64 i) a w) (u_133, u_42, f) 138 _ dX12_drawn_138 (fun h => by cases h) (⟨by have ej : i = j := (by omega); subst ej; rw [ha]; exact dw_ok (by omega) (dw_4 c_9 c_21 c_33), Rel_cpy (fun k hk => (w_133 k hk).trans (w_42 k hk)) hr htc hdc hpc, mo_t (dw_4 c_9 c_21 c_33)⟩) hP hD hS
            · have c_58 : ¬ (j ≤ i) := fun h => c_58 ((nI_leI (a := j) (b := i) (by omega) (by omega)).mpr h)
              refine lv_lload zx zb dX12_drawn_61 (lv_at hl 4 rfl) ?_
              refine lv_ldc2 zx zb hown (hts _ kl_X12_280) dX12_drawn_63 ?_
              refine lv_lmul zx zb dX12_drawn_66 ?_
              refine lv_ldc2 zx zb hown (hts _ kl_X12_282) dX12_drawn_67 ?_
              refine lv_ladd zx zb dX12_drawn_70 ?_
              refine lv_ldc2 zx zb hown (hts _ kl_X12_284) dX12_drawn_71 ?_
              refine lv_lrem zx zb dX12_drawn_74 (by decide) ?_
              refine lv_lstore (lv' := [(4, .long (((h * (1103515245 : Int64)) + (12345 : Int64)) - ((h * (1103515245 : Int64)) + (12345 : Int64)) / (2147483648 : Int64) * (2147483648 : Int64))), (0, .ref (m 0)), (1, .int (nI j)), (2, .int q), (3, .int w), (6, .int a), (7, .int (nI i))]) zx zb dX12_drawn_75 hl (by decide) rfl (fun ls hl => ?_)
              refine lv_lload zx zb dX12_drawn_77 (lv_at hl 0 rfl) ?_
              refine lv_ldc2 zx zb hown (hts _ kl_X12_286) dX12_drawn_79 ?_
              refine lv_ldiv zx zb dX12_drawn_82 (by decide) ?_
              refine lv_ldc2 zx zb hown (hts _ kl_X12_288) dX12_drawn_83 ?_
              refine lv_lrem zx zb dX12_drawn_86 (by decide) ?_
              refine lv_l2i (v := (((((h * (1103515245 : Int64)) + (12345 : Int64)) - ((h * (1103515245 : Int64)) + (12345 : Int64)) / (2147483648 : Int64) * (2147483648 : Int64)) / (65536 : Int64)) - ((((h * (1103515245 : Int64)) + (12345 : Int64)) - ((h * (1103515245 : Int64)) + (12345 : Int64)) / (2147483648 : Int64) * (2147483648 : Int64)) / (65536 : Int64)) / (16 : Int64) * (16 : Int64)).toInt32) zx zb dX12_drawn_87 rfl ?_
              refine lv_istore (lv' := [(8, .int ((((((h * (1103515245 : Int64)) + (12345 : Int64)) - ((h * (1103515245 : Int64)) + (12345 : Int64)) / (2147483648 : Int64) * (2147483648 : Int64)) / (65536 : Int64)) - ((((h * (1103515245 : Int64)) + (12345 : Int64)) - ((h * (1103515245 : Int64)) + (12345 : Int64)) / (2147483648 : Int64) * (2147483648 : Int64)) / (65536 : Int64)) / (16 : Int64) * (16 : Int64)).toInt32)), (4, .long (((h * (1103515245 : Int64)) + (12345 : Int64)) - ((h * (1103515245 : Int64)) + (12345 : Int64)) / (2147483648 : Int64) * (2147483648 : Int64))), (0, .ref (m 0)), (1, .int (nI j)), (2, .int q), (3, .int w), (6, .int a), (7, .int (nI i))]) zx zb dX12_drawn_88 hl (by decide) rfl (fun ls hl => ?_)
              refine lv_aload_n zx zb dX12_drawn_90 rfl (lv_at hl 2 rfl) ?_
              refine lv_iload zx zb dX12_drawn_91 (lv_at hl 0 rfl) ?_
              refine lv_aload_n zx zb dX12_drawn_93 rfl (lv_at hl 2 rfl) ?_
              refine lv_aload_n zx zb dX12_drawn_94 rfl (lv_at hl 2 rfl) ?_
              refine g_get (v := .ref (m 1)) XX hP 0 0 rfl rfl rfl iwX12 0 (by decide) fl_X12_7 rfl dX12_drawn_95 ?_
              refine lv_iconst (v := nI 1) zx zb dX12_drawn_98 (by decide) ?_
              refine g_ialdN (i := 1) XX hP 1 0 rfl rfl (by omega) (by decide) dX12_drawn_99 ?_
              refine g_top (y := (drM C tr Y q.toInt64 i).1) (Rel.y hr1) ?_
              refine call_Vi (As := [.int ((drM C tr Y q.toInt64 i).1)]) (rest := [.int ((((((h * (1103515245 : Int64)) + (12345 : Int64)) - ((h * (1103515245 : Int64)) + (12345 : Int64)) / (2147483648 : Int64) * (2147483648 : Int64)) / (65536 : Int64)) - ((((h * (1103515245 : Int64)) + (12345 : Int64)) - ((h * (1103515245 : Int64)) + (12345 : Int64)) / (2147483648 : Int64) * (2147483648 : Int64)) / (65536 : Int64)) / (16 : Int64) * (16 : Int64)).toInt32), .ref (m 0)]) XX cv_X12_184 (c_X12_isSpring Γ l m M b1 C tr (drM C tr Y q.toInt64 i) pc P ((drM C tr Y q.toInt64 i).1) (hr1) (hIZ)) hP hD hS hA [0, 1] (by decide) rfl (fun _ => rfl) 0 0 rfl rfl rfl rfl hl.1 rfl ⟨⟨by decide, by decide⟩, by decide, by decide⟩ (Nat.le_of_ble_eq_true rfl) dX12_drawn_100 (fun r_100 u H locs hw hP hD hS => ?_)
              have hw := hw.symm
              subst hw
              have hP : bP Γ [bMo Γ m M, bA Γ (m 1) 259 b1, bA Γ (m 5) 259 u_42, bA Γ (m 6) 3 f] H := hP
              have hD : bD AA [bMo Γ m M, bA Γ (m 1) 259 b1, bA Γ (m 5) 259 u_42, bA Γ (m 6) 3 f] := hD
              refine lv_if_eq (tgt := 110) zx zb dX12_drawn_103 (by decide) (fun c_103 => ?_) (fun c_103 => ?_)
              · have c_103 : (coSpring C ((drM C tr Y q.toInt64 i).1)) = false := bI_0.mp c_103
                refine lv_iconst (v := nI 0) zx zb dX12_drawn_110 (by decide) ?_
                refine lv_iadd zx zb dX12_drawn_111 ?_
                refine g_top (y := ((((((h * (1103515245 : Int64)) + (12345 : Int64)) - ((h * (1103515245 : Int64)) + (12345 : Int64)) / (2147483648 : Int64) * (2147483648 : Int64)) / (65536 : Int64)) - ((((h * (1103515245 : Int64)) + (12345 : Int64)) - ((h * (1103515245 : Int64)) + (12345 : Int64)) / (2147483648 : Int64) * (2147483648 : Int64)) / (65536 : Int64)) / (16 : Int64) * (16 : Int64)).toInt32) + 0) rfl ?_
                refine call_Vi (As := [.int (((((((h * (1103515245 : Int64)) + (12345 : Int64)) - ((h * (1103515245 : Int64)) + (12345 : Int64)) / (2147483648 : Int64) * (2147483648 : Int64)) / (65536 : Int64)) - ((((h * (1103515245 : Int64)) + (12345 : Int64)) - ((h * (1103515245 : Int64)) + (12345 : Int64)) / (2147483648 : Int64) * (2147483648 : Int64)) / (65536 : Int64)) / (16 : Int64) * (16 : Int64)).toInt32) + 0)]) (rest := []) XX cv_X12_218 (c_X12_goes Γ l m M b1 C tr (drM C tr Y q.toInt64 i) pc P (((((((h * (1103515245 : Int64)) + (12345 : Int64)) - ((h * (1103515245 : Int64)) + (12345 : Int64)) / (2147483648 : Int64) * (2147483648 : Int64)) / (65536 : Int64)) - ((((h * (1103515245 : Int64)) + (12345 : Int64)) - ((h * (1103515245 : Int64)) + (12345 : Int64)) / (2147483648 : Int64) * (2147483648 : Int64)) / (65536 : Int64)) / (16 : Int64) * (16 : Int64)).toInt32) + 0) (hr1) (hIZ)) hP hD hS hA [0, 1] (by decide) rfl (fun _ => rfl) 0 0 rfl rfl rfl rfl hl.1 rfl ⟨⟨by decide, by decide⟩, by decide, by decide⟩ (Nat.le_of_ble_eq_true rfl) dX12_drawn_112 (fun r_112 u H locs hw hP hD hS => ?_)
                obtain ⟨u_112, rfl⟩ : ∃ z, z = u := ⟨_, rfl⟩
                have w_112 := hw
                have hP : bP Γ [bMo Γ m M, bA Γ (m 1) 259 u_112, bA Γ (m 5) 259 u_42, bA Γ (m 6) 3 f] H := hP
                have hD : bD AA [bMo Γ m M, bA Γ (m 1) 259 u_112, bA Γ (m 5) 259 u_42, bA Γ (m 6) 3 f] := hD
                refine lv_istore (lv' := [(6, .int r_112), (8, .int ((((((h * (1103515245 : Int64)) + (12345 : Int64)) - ((h * (1103515245 : Int64)) + (12345 : Int64)) / (2147483648 : Int64) * (2147483648 : Int64)) / (65536 : Int64)) - ((((h * (1103515245 : Int64)) + (12345 : Int64)) - ((h * (1103515245 : Int64)) + (12345 : Int64)) / (2147483648 : Int64) * (2147483648 : Int64)) / (65536 : Int64)) / (16 : Int64) * (16 : Int64)).toInt32)), (4, .long (((h * (1103515245 : Int64)) + (12345 : Int64)) - ((h * (1103515245 : Int64)) + (12345 : Int64)) / (2147483648 : Int64) * (2147483648 : Int64))), (0, .ref (m 0)), (1, .int (nI j)), (2, .int q), (3, .int w), (7, .int (nI i))]) zx zb dX12_drawn_115 hl (by decide) rfl (fun ls hl => ?_)
                refine lv_iinc (v := nI (i + 1)) (lv' := [(7, .int (nI (i + 1))), (6, .int r_112), (8, .int ((((((h * (1103515245 : Int64)) + (12345 : Int64)) - ((h * (1103515245 : Int64)) + (12345 : Int64)) / (2147483648 : Int64) * (2147483648 : Int64)) / (65536 : Int64)) - ((((h * (1103515245 : Int64)) + (12345 : Int64)) - ((h * (1103515245 : Int64)) + (12345 : Int64)) / (2147483648 : Int64) * (2147483648 : Int64)) / (65536 : Int64)) / (16 : Int64) * (16 : Int64)).toInt32)), (4, .long (((h * (1103515245 : Int64)) + (12345 : Int64)) - ((h * (1103515245 : Int64)) + (12345 : Int64)) / (2147483648 : Int64) * (2147483648 : Int64))), (0, .ref (m 0)), (1, .int (nI j)), (2, .int q), (3, .int w)]) zx zb dX12_drawn_117 hl (k := 7) rfl (nI_inc _ 1) (by decide) rfl (fun ls hl => ?_)
                refine lv_goto (tgt := 55) zx zb dX12_drawn_120 (by decide) ?_
                exact ih55 (i + 1) (((h * (1103515245 : Int64)) + (12345 : Int64)) - ((h * (1103515245 : Int64)) + (12345 : Int64)) / (2147483648 : Int64) * (2147483648 : Int64)) r_112 u_112 (by omega) (by rw [drX, ← hx0]) (by first | (rw [drF, drS, drX, ← hx0, coMore, if_pos c_103]; exact w_112.1) | (rw [drF, drS, drX, ← hx0, coMore, if_neg (by rw [c_103]; exact Bool.false_ne_true)]; exact w_112.1)) (by first | (rw [drM, drS, drX, ← hx0, coMore, if_pos c_103]; exact w_112.2) | (rw [drM, drS, drX, ← hx0, coMore, if_neg (by rw [c_103]; exact Bool.false_ne_true)]; exact w_112.2)) (by omega) _ _ hP hD hS _ (lv_sub hl [4, 5, 6, 7, 3, 1, 0] rfl)
              · have c_103 : (coSpring C ((drM C tr Y q.toInt64 i).1)) = true := bI_ne c_103
                refine lv_iconst (v := nI 2) zx zb dX12_drawn_106 (by decide) ?_
                refine lv_goto (tgt := 111) zx zb dX12_drawn_107 (by decide) ?_
                refine lv_iadd zx zb dX12_drawn_111 ?_
                refine g_top (y := ((((((h * (1103515245 : Int64)) + (12345 : Int64)) - ((h * (1103515245 : Int64)) + (12345 : Int64)) / (2147483648 : Int64) * (2147483648 : Int64)) / (65536 : Int64)) - ((((h * (1103515245 : Int64)) + (12345 : Int64)) - ((h * (1103515245 : Int64)) + (12345 : Int64)) / (2147483648 : Int64) * (2147483648 : Int64)) / (65536 : Int64)) / (16 : Int64) * (16 : Int64)).toInt32) + 2) rfl ?_
                refine call_Vi (As := [.int (((((((h * (1103515245 : Int64)) + (12345 : Int64)) - ((h * (1103515245 : Int64)) + (12345 : Int64)) / (2147483648 : Int64) * (2147483648 : Int64)) / (65536 : Int64)) - ((((h * (1103515245 : Int64)) + (12345 : Int64)) - ((h * (1103515245 : Int64)) + (12345 : Int64)) / (2147483648 : Int64) * (2147483648 : Int64)) / (65536 : Int64)) / (16 : Int64) * (16 : Int64)).toInt32) + 2)]) (rest := []) XX cv_X12_218 (c_X12_goes Γ l m M b1 C tr (drM C tr Y q.toInt64 i) pc P (((((((h * (1103515245 : Int64)) + (12345 : Int64)) - ((h * (1103515245 : Int64)) + (12345 : Int64)) / (2147483648 : Int64) * (2147483648 : Int64)) / (65536 : Int64)) - ((((h * (1103515245 : Int64)) + (12345 : Int64)) - ((h * (1103515245 : Int64)) + (12345 : Int64)) / (2147483648 : Int64) * (2147483648 : Int64)) / (65536 : Int64)) / (16 : Int64) * (16 : Int64)).toInt32) + 2) (hr1) (hIZ)) hP hD hS hA [0, 1] (by decide) rfl (fun _ => rfl) 0 0 rfl rfl rfl rfl hl.1 rfl ⟨⟨by decide, by decide⟩, by decide, by decide⟩ (Nat.le_of_ble_eq_true rfl) dX12_drawn_112 (fun r_112 u H locs hw hP hD hS => ?_)
                obtain ⟨u_112, rfl⟩ : ∃ z, z = u := ⟨_, rfl⟩
                have w_112 := hw
                have hP : bP Γ [bMo Γ m M, bA Γ (m 1) 259 u_112, bA Γ (m 5) 259 u_42, bA Γ (m 6) 3 f] H := hP
                have hD : bD AA [bMo Γ m M, bA Γ (m 1) 259 u_112, bA Γ (m 5) 259 u_42, bA Γ (m 6) 3 f] := hD
                refine lv_istore (lv' := [(6, .int r_112), (8, .int ((((((h * (1103515245 : Int64)) + (12345 : Int64)) - ((h * (1103515245 : Int64)) + (12345 : Int64)) / (2147483648 : Int64) * (2147483648 : Int64)) / (65536 : Int64)) - ((((h * (1103515245 : Int64)) + (12345 : Int64)) - ((h * (1103515245 : Int64)) + (12345 : Int64)) / (2147483648 : Int64) * (2147483648 : Int64)) / (65536 : Int64)) / (16 : Int64) * (16 : Int64)).toInt32)), (4, .long (((h * (1103515245 : Int64)) + (12345 : Int64)) - ((h * (1103515245 : Int64)) + (12345 : Int64)) / (2147483648 : Int64) * (2147483648 : Int64))), (0, .ref (m 0)), (1, .int (nI j)), (2, .int q), (3, .int w), (7, .int (nI i))]) zx zb dX12_drawn_115 hl (by decide) rfl (fun ls hl => ?_)
                refine lv_iinc (v := nI (i + 1)) (lv' := [(7, .int (nI (i + 1))), (6, .int r_112), (8, .int ((((((h * (1103515245 : Int64)) + (12345 : Int64)) - ((h * (1103515245 : Int64)) + (12345 : Int64)) / (2147483648 : Int64) * (2147483648 : Int64)) / (65536 : Int64)) - ((((h * (1103515245 : Int64)) + (12345 : Int64)) - ((h * (1103515245 : Int64)) + (12345 : Int64)) / (2147483648 : Int64) * (2147483648 : Int64)) / (65536 : Int64)) / (16 : Int64) * (16 : Int64)).toInt32)), (4, .long (((h * (1103515245 : Int64)) + (12345 : Int64)) - ((h * (1103515245 : Int64)) + (12345 : Int64)) / (2147483648 : Int64) * (2147483648 : Int64))), (0, .ref (m 0)), (1, .int (nI j)), (2, .int q), (3, .int w)]) zx zb dX12_drawn_117 hl (k := 7) rfl (nI_inc _ 1) (by decide) rfl (fun ls hl => ?_)
                refine lv_goto (tgt := 55) zx zb dX12_drawn_120 (by decide) ?_
                exact ih55 (i + 1) (((h * (1103515245 : Int64)) + (12345 : Int64)) - ((h * (1103515245 : Int64)) + (12345 : Int64)) / (2147483648 : Int64) * (2147483648 : Int64)) r_112 u_112 (by omega) (by rw [drX, ← hx0]) (by first | (rw [drF, drS, drX, ← hx0, coMore, if_pos c_103]; exact w_112.1) | (rw [drF, drS, drX, ← hx0, coMore, if_neg (by rw [c_103]; exact Bool.false_ne_true)]; exact w_112.1)) (by first | (rw [drM, drS, drX, ← hx0, coMore, if_pos c_103]; exact w_112.2) | (rw [drM, drS, drX, ← hx0, coMore, if_neg (by rw [c_103]; exact Bool.false_ne_true)]; exact w_112.2)) (by omega) _ _ hP hD hS _ (lv_sub hl [4, 5, 6, 7, 3, 1, 0] rfl)
        exact L55 _ 0 q.toInt64 0 b (by omega) (rfl) (rfl) (hr) (Nat.lt_succ_self _) _ _ hP hD hS _ (lv_sub hl [3, 4, 5, 6, 2, 1, 0] rfl)
      · have c_33 : (wi w 0 4) = false := bI_0.mp c_33
        refine lv_aload_n zx zb dX12_drawn_36 rfl (lv_at hl 0 rfl) ?_
        refine call_Vi (As := []) (rest := []) XX cv_X12_59 (c_X12_bad Γ l m M f ) hP hD hS hA [0, 3] (by decide) rfl (fun _ => rfl) 0 0 rfl rfl rfl rfl hl.1 rfl ⟨⟨by decide, by decide⟩, by decide, by decide⟩ (Nat.le_of_ble_eq_true rfl) dX12_drawn_37 (fun r_37 u H locs hw hP hD hS => ?_)
        obtain ⟨hw1, hw2⟩ := hw
        have hw1 := hw1.symm
        have hw2 := hw2.symm
        subst hw1
        subst hw2
        have hP : bP Γ [bMo Γ m M, bA Γ (m 1) 259 b, bA Γ (m 5) 259 hh, bA Γ (m 6) 3 (moRef M f 0)] H := hP
        have hD : bD AA [bMo Γ m M, bA Γ (m 1) 259 b, bA Γ (m 5) 259 hh, bA Γ (m 6) 3 (moRef M f 0)] := hD
        exact fin _ _ (-2) (b, hh, (moRef M f 0)) 40 _ dX12_drawn_40 (fun h => by cases h) (by first | exact ⟨dw_b (dw_1 c_9), hr, mo_f (dw_1 c_9)⟩ | exact ⟨dw_b (dw_2 c_21), hr, mo_f (dw_2 c_21)⟩ | exact ⟨dw_b (dw_3 c_33), hr, mo_f (dw_3 c_33)⟩) hP hD hS

set_option maxHeartbeats 4000000 in
set_option maxRecDepth 100000 in
theorem c_X12_vote (Γ : GG) (l : Launch) (m : Nat → Nat) (M : MoV) (b : Nat → Int32) (C : CoV) (tr : Nat → TrV) (Y : YrV) (pc : Nat) (P : Nat → YrV) (hh : Nat → Int32) (f : Nat → Int32) (y : Nat) (vv : Nat → Int32) (a : Int32) (n : Int32) (w : Int32) (hr : Rel b C tr Y pc P) (hI : Inv C tr Y) (hpc : pc ≤ 6) (hy : Y.1 = nI y) (hyb : y + 30 < 1000000) : Ci Γ l yX12_vote cX12_vote 8 (some (.int)) 5 121 0 0 [.ref (m 0), .int a, .int n, .int w] [bMo Γ m M, bA Γ (m 1) 259 b, bA Γ (m 5) 259 hh, bA Γ (m 6) 3 f, bA Γ (m 10) 8 vv] (fun (r : Int32) (u : (Nat → Int32) × (Nat → Int32) × (Nat → Int32) × (Nat → Int32)) => r = voR C tr Y a n w ∧ Rel u.1 C tr Y pc P ∧ u.2.2.1 = moV M f (voOk a n w)) (fun (u : (Nat → Int32) × (Nat → Int32) × (Nat → Int32) × (Nat → Int32)) => [bMo Γ m M, bA Γ (m 1) 259 u.1, bA Γ (m 5) 259 u.2.1, bA Γ (m 6) 3 u.2.2.1, bA Γ (m 10) 8 u.2.2.2]) := by
  refine Ci.of (Or.inl rfl) (by decide) (Nat.le_of_ble_eq_true rfl) ?_
  intro pp ee ss mm bb me cd AA QQ XX hnm hA hP hD fin ls hl
  obtain ⟨zx, zb, hml, hown, hts, hK⟩ := id XX
  have hS : va_S AA ss.heap ss.heap [] := va_S.rf
  have hl : lv_has ls 8 [(0, .ref (m 0)), (1, .int a), (2, .int n), (3, .int w)] := hl
  have htc := inv_tc hI
  have hdc := inv_dc hI
  have hn := inv_n hI
  refine lv_iload_n zx zb dX12_vote_0 rfl (lv_at hl 1 rfl) ?_
  refine lv_i2l (v := a.toInt64) zx zb dX12_vote_1 rfl ?_
  refine lv_lconst (v := (1 : Int32).toInt64) zx zb dX12_vote_2 (by decide) ?_
  refine lv_ldc2 zx zb hown (hts _ kl_X12_249) dX12_vote_3 ?_
  refine g_topl (y := (12 : Int32).toInt64) (by decide) ?_
  refine callR_Si (As := [.long a.toInt64, .long ((1 : Int32).toInt64), .long ((12 : Int32).toInt64)]) (rest := []) XX cs_X12_53 (c_X12_in Γ l a 1 12 ) hP hD hS hA nil_mem nil_D rfl hl.1 rfl ⟨⟨by decide, by decide⟩, by decide, by decide⟩ (Nat.le_of_ble_eq_true rfl) dX12_vote_6 (fun r_6 H locs hw hP hS => ?_)
  have hw := hw.symm
  subst hw
  refine lv_if_eq (tgt := 34) zx zb dX12_vote_9 (by decide) (fun c_9 => ?_) (fun c_9 => ?_)
  · have c_9 : (wi a 1 12) = false := bI_0.mp c_9
    refine lv_aload_n zx zb dX12_vote_34 rfl (lv_at hl 0 rfl) ?_
    refine call_Vi (As := []) (rest := []) XX cv_X12_59 (c_X12_bad Γ l m M f ) hP hD hS hA [0, 3] (by decide) rfl (fun _ => rfl) 0 0 rfl rfl rfl rfl hl.1 rfl ⟨⟨by decide, by decide⟩, by decide, by decide⟩ (Nat.le_of_ble_eq_true rfl) dX12_vote_35 (fun r_35 u H locs hw hP hD hS => ?_)
    obtain ⟨hw1, hw2⟩ := hw
    have hw1 := hw1.symm
    have hw2 := hw2.symm
    subst hw1
    subst hw2
    have hP : bP Γ [bMo Γ m M, bA Γ (m 1) 259 b, bA Γ (m 5) 259 hh, bA Γ (m 6) 3 (moRef M f 0), bA Γ (m 10) 8 vv] H := hP
    have hD : bD AA [bMo Γ m M, bA Γ (m 1) 259 b, bA Γ (m 5) 259 hh, bA Γ (m 6) 3 (moRef M f 0), bA Γ (m 10) 8 vv] := hD
    exact fin _ _ (-2) (b, hh, (moRef M f 0), vv) 38 _ dX12_vote_38 (fun h => by cases h) (by first | exact ⟨vo_b (vo_1 c_9), hr, mo_f (vo_1 c_9)⟩ | exact ⟨vo_b (vo_2 c_21), hr, mo_f (vo_2 c_21)⟩ | exact ⟨vo_b (vo_3 c_31), hr, mo_f (vo_3 c_31)⟩) hP hD hS
  · have c_9 : (wi a 1 12) = true := bI_ne c_9
    refine lv_iload_n zx zb dX12_vote_12 rfl (lv_at hl 2 rfl) ?_
    refine lv_i2l (v := n.toInt64) zx zb dX12_vote_13 rfl ?_
    refine lv_lconst (v := (0 : Int32).toInt64) zx zb dX12_vote_14 (by decide) ?_
    refine lv_ldc2 zx zb hown (hts _ kl_X12_249) dX12_vote_15 ?_
    refine g_topl (y := (12 : Int32).toInt64) (by decide) ?_
    refine callR_Si (As := [.long n.toInt64, .long ((0 : Int32).toInt64), .long ((12 : Int32).toInt64)]) (rest := []) XX cs_X12_53 (c_X12_in Γ l n 0 12 ) hP hD hS hA nil_mem nil_D rfl hl.1 rfl ⟨⟨by decide, by decide⟩, by decide, by decide⟩ (Nat.le_of_ble_eq_true rfl) dX12_vote_18 (fun r_18 H locs hw hP hS => ?_)
    have hw := hw.symm
    subst hw
    refine lv_if_eq (tgt := 34) zx zb dX12_vote_21 (by decide) (fun c_21 => ?_) (fun c_21 => ?_)
    · have c_21 : (wi n 0 12) = false := bI_0.mp c_21
      refine lv_aload_n zx zb dX12_vote_34 rfl (lv_at hl 0 rfl) ?_
      refine call_Vi (As := []) (rest := []) XX cv_X12_59 (c_X12_bad Γ l m M f ) hP hD hS hA [0, 3] (by decide) rfl (fun _ => rfl) 0 0 rfl rfl rfl rfl hl.1 rfl ⟨⟨by decide, by decide⟩, by decide, by decide⟩ (Nat.le_of_ble_eq_true rfl) dX12_vote_35 (fun r_35 u H locs hw hP hD hS => ?_)
      obtain ⟨hw1, hw2⟩ := hw
      have hw1 := hw1.symm
      have hw2 := hw2.symm
      subst hw1
      subst hw2
      have hP : bP Γ [bMo Γ m M, bA Γ (m 1) 259 b, bA Γ (m 5) 259 hh, bA Γ (m 6) 3 (moRef M f 0), bA Γ (m 10) 8 vv] H := hP
      have hD : bD AA [bMo Γ m M, bA Γ (m 1) 259 b, bA Γ (m 5) 259 hh, bA Γ (m 6) 3 (moRef M f 0), bA Γ (m 10) 8 vv] := hD
      exact fin _ _ (-2) (b, hh, (moRef M f 0), vv) 38 _ dX12_vote_38 (fun h => by cases h) (by first | exact ⟨vo_b (vo_1 c_9), hr, mo_f (vo_1 c_9)⟩ | exact ⟨vo_b (vo_2 c_21), hr, mo_f (vo_2 c_21)⟩ | exact ⟨vo_b (vo_3 c_31), hr, mo_f (vo_3 c_31)⟩) hP hD hS
    · have c_21 : (wi n 0 12) = true := bI_ne c_21
      refine lv_iload_n zx zb dX12_vote_24 rfl (lv_at hl 3 rfl) ?_
      refine lv_i2l (v := w.toInt64) zx zb dX12_vote_25 rfl ?_
      refine lv_lconst (v := (0 : Int32).toInt64) zx zb dX12_vote_26 (by decide) ?_
      refine lv_lconst (v := (1 : Int32).toInt64) zx zb dX12_vote_27 (by decide) ?_
      refine callR_Si (As := [.long w.toInt64, .long ((0 : Int32).toInt64), .long ((1 : Int32).toInt64)]) (rest := []) XX cs_X12_53 (c_X12_in Γ l w 0 1 ) hP hD hS hA nil_mem nil_D rfl hl.1 rfl ⟨⟨by decide, by decide⟩, by decide, by decide⟩ (Nat.le_of_ble_eq_true rfl) dX12_vote_28 (fun r_28 H locs hw hP hS => ?_)
      have hw := hw.symm
      subst hw
      refine lv_if_ne (tgt := 39) zx zb dX12_vote_31 (by decide) (fun c_31 => ?_) (fun c_31 => ?_)
      · have c_31 : (wi w 0 1) = true := bI_ne c_31
        obtain ⟨j, hj, rfl⟩ := wi_nat 1 12 c_9 rfl rfl (by decide)
        refine lv_iconst (v := nI 0) zx zb dX12_vote_39 (by decide) ?_
        refine lv_istore (lv' := [(4, .int (nI 0)), (0, .ref (m 0)), (1, .int (nI j)), (2, .int n), (3, .int w)]) zx zb dX12_vote_40 hl (by decide) rfl (fun ls hl => ?_)
        have L42 : ∀ (nn : Nat) (x1 : Nat) (v1 : Nat → Int32), (x1 ≤ C.1) → (∀ k, k < x1 → v1 k = if yrLost Y k = true then 0 else C.2.2.2.1 k / 10) → C.1 - x1 < nn → ∀ (H : Heap) (locs : List Loc), bP Γ [bMo Γ m M, bA Γ (m 1) 259 b, bA Γ (m 5) 259 hh, bA Γ (m 6) 3 f, bA Γ (m 10) 8 v1] H → bD AA [bMo Γ m M, bA Γ (m 1) 259 b, bA Γ (m 5) 259 hh, bA Γ (m 6) 3 f, bA Γ (m 10) 8 v1] → va_S AA ss.heap H locs → ∀ (ls : Array Slot), lv_has ls 8 [(0, .ref (m 0)), (1, .int (nI j)), (2, .int n), (3, .int w), (4, .int (nI x1))] → W pp l ee { frames := 5, cells := 0, slots := 0, locals := 121 } ss mm [.ref (m 0), .int (nI j), .int n, .int w].toArray bb me cd H locs 0 0 QQ (F0 mm 42 ls []) := by
          intro nn
          induction nn with
          | zero => intro x1 v1 hx hv hm; exact absurd hm (Nat.not_lt_zero _)
          | succ nn ih42 =>
            intro x1 v1 hx hv hm42 H locs hP hD hS ls hl
            refine lv_iload zx zb dX12_vote_42 (lv_at hl 4 rfl) ?_
            refine lv_aload_n zx zb dX12_vote_44 rfl (lv_at hl 0 rfl) ?_
            refine g_get (v := .ref (m 1)) XX hP 0 0 rfl rfl rfl iwX12 0 (by decide) fl_X12_7 rfl dX12_vote_45 ?_
            refine lv_iconst (v := nI 0) zx zb dX12_vote_48 (by decide) ?_
            refine g_ialdN (i := 0) XX hP 1 0 rfl rfl (by omega) (by decide) dX12_vote_49 ?_
            refine g_top (y := nI (C.1)) (Rel.n hr) ?_
            refine lv_icmp_ge (tgt := 93) zx zb dX12_vote_50 (by decide) (fun c_50 => ?_) (fun c_50 => ?_)
            · have c_50 : C.1 ≤ x1 := (nI_leI (a := C.1) (b := x1) (by omega) (by omega)).mp c_50
              refine lv_aload_n zx zb dX12_vote_93 rfl (lv_at hl 0 rfl) ?_
              refine call_Vv (As := []) (rest := []) XX cv_X12_234 (c_X12_holdsRow Γ l m M b hh ) hP hD hS hA [0, 1, 2] (by decide) rfl (fun _ => rfl) 0 0 rfl rfl rfl rfl hl.1 rfl ⟨⟨by decide, by decide⟩, by decide, by decide⟩ (Nat.le_of_ble_eq_true rfl) dX12_vote_94 (fun u H locs hw hP hD hS => ?_)
              obtain ⟨u_94, rfl⟩ : ∃ z, z = u := ⟨_, rfl⟩
              have w_94 := hw
              have hP : bP Γ [bMo Γ m M, bA Γ (m 1) 259 b, bA Γ (m 5) 259 u_94, bA Γ (m 6) 3 f, bA Γ (m 10) 8 v1] H := hP
              have hD : bD AA [bMo Γ m M, bA Γ (m 1) 259 b, bA Γ (m 5) 259 u_94, bA Γ (m 6) 3 f, bA Γ (m 10) 8 v1] := hD
              refine lv_aload_n zx zb dX12_vote_97 rfl (lv_at hl 0 rfl) ?_
              refine lv_iload_n zx zb dX12_vote_98 rfl (lv_at hl 1 rfl) ?_
              refine call_Vi (As := [.int (nI j)]) (rest := []) XX cv_X12_251 (c_X12_floodsIn Γ l m M b C tr Y pc P j y (hr) (hI) (by omega) (by omega)) hP hD hS hA [0, 1] (by decide) rfl (fun _ => rfl) 0 0 rfl rfl rfl rfl hl.1 rfl ⟨⟨by decide, by decide⟩, by decide, by decide⟩ (Nat.le_of_ble_eq_true rfl) dX12_vote_99 (fun r_99 u H locs hw hP hD hS => ?_)
              obtain ⟨u_99, rfl⟩ : ∃ z, z = u := ⟨_, rfl⟩
              have w_99 := hw
              have hP : bP Γ [bMo Γ m M, bA Γ (m 1) 259 u_99, bA Γ (m 5) 259 u_94, bA Γ (m 6) 3 f, bA Γ (m 10) 8 v1] H := hP
              have hD : bD AA [bMo Γ m M, bA Γ (m 1) 259 u_99, bA Γ (m 5) 259 u_94, bA Γ (m 6) 3 f, bA Γ (m 10) 8 v1] := hD
              refine lv_pop zx zb dX12_vote_102 rfl ?_
              have hr9 := w_99.2
              refine lv_iconst (v := nI 0) zx zb dX12_vote_103 (by decide) ?_
              refine lv_istore (lv' := [(4, .int (nI 0)), (0, .ref (m 0)), (1, .int (nI j)), (2, .int n), (3, .int w)]) zx zb dX12_vote_104 hl (by decide) rfl (fun ls hl => ?_)
              refine lv_iconst (v := nI 0) zx zb dX12_vote_106 (by decide) ?_
              refine lv_istore (lv' := [(5, .int (nI 0)), (4, .int (nI 0)), (0, .ref (m 0)), (1, .int (nI j)), (2, .int n), (3, .int w)]) zx zb dX12_vote_107 hl (by decide) rfl (fun ls hl => ?_)
              refine lv_iconst (v := nI 0) zx zb dX12_vote_109 (by decide) ?_
              refine lv_istore (lv' := [(6, .int (nI 0)), (5, .int (nI 0)), (4, .int (nI 0)), (0, .ref (m 0)), (1, .int (nI j)), (2, .int n), (3, .int w)]) zx zb dX12_vote_110 hl (by decide) rfl (fun ls hl => ?_)
              have L112 : ∀ (nn : Nat) (x2 : Nat) (f4 : Int32) (g4 : Int32), (x2 ≤ C.1) → ((f4, g4) = voS C Y (runM C tr Y j) n x2) → C.1 - x2 < nn → ∀ (H : Heap) (locs : List Loc), bP Γ [bMo Γ m M, bA Γ (m 1) 259 u_99, bA Γ (m 5) 259 u_94, bA Γ (m 6) 3 f, bA Γ (m 10) 8 v1] H → bD AA [bMo Γ m M, bA Γ (m 1) 259 u_99, bA Γ (m 5) 259 u_94, bA Γ (m 6) 3 f, bA Γ (m 10) 8 v1] → va_S AA ss.heap H locs → ∀ (ls : Array Slot), lv_has ls 8 [(0, .ref (m 0)), (2, .int n), (3, .int w), (4, .int f4), (5, .int g4), (6, .int (nI x2))] → W pp l ee { frames := 5, cells := 0, slots := 0, locals := 121 } ss mm [.ref (m 0), .int (nI j), .int n, .int w].toArray bb me cd H locs 0 0 QQ (F0 mm 112 ls []) := by
                intro nn
                induction nn with
                | zero => intro x2 f4 g4 hx2 hs hm; exact absurd hm (Nat.not_lt_zero _)
                | succ nn ih112 =>
                  intro x2 f4 g4 hx2 hs hm112 H locs hP hD hS ls hl
                  refine lv_iload zx zb dX12_vote_112 (lv_at hl 5 rfl) ?_
                  refine lv_aload_n zx zb dX12_vote_114 rfl (lv_at hl 0 rfl) ?_
                  refine g_get (v := .ref (m 1)) XX hP 0 0 rfl rfl rfl iwX12 0 (by decide) fl_X12_7 rfl dX12_vote_115 ?_
                  refine lv_iconst (v := nI 0) zx zb dX12_vote_118 (by decide) ?_
                  refine g_ialdN (i := 0) XX hP 1 0 rfl rfl (by omega) (by decide) dX12_vote_119 ?_
                  refine g_top (y := nI (C.1)) (Rel.n hr9) ?_
                  refine lv_icmp_ge (tgt := 205) zx zb dX12_vote_120 (by decide) (fun c_120 => ?_) (fun c_120 => ?_)
                  · have c_120 : C.1 ≤ x2 := (nI_leI (a := C.1) (b := x2) (by omega) (by omega)).mp c_120
                    refine lv_aload_n zx zb dX12_vote_205 rfl (lv_at hl 0 rfl) ?_
                    refine call_Vv (As := []) (rest := []) XX cv_X12_240 (c_X12_laysBack Γ l m M u_99 u_94 ) hP hD hS hA [0, 1, 2] (by decide) rfl (fun _ => rfl) 0 0 rfl rfl rfl rfl hl.1 rfl ⟨⟨by decide, by decide⟩, by decide, by decide⟩ (Nat.le_of_ble_eq_true rfl) dX12_vote_206 (fun u H locs hw hP hD hS => ?_)
                    obtain ⟨u_206, rfl⟩ : ∃ z, z = u := ⟨_, rfl⟩
                    have w_206 := hw
                    have hP : bP Γ [bMo Γ m M, bA Γ (m 1) 259 u_206, bA Γ (m 5) 259 u_94, bA Γ (m 6) 3 f, bA Γ (m 10) 8 v1] H := hP
                    have hD : bD AA [bMo Γ m M, bA Γ (m 1) 259 u_206, bA Γ (m 5) 259 u_94, bA Γ (m 6) 3 f, bA Γ (m 10) 8 v1] := hD
                    refine lv_iload_n zx zb dX12_vote_209 rfl (lv_at hl 2 rfl) ?_
                    refine lv_if_ne (tgt := 218) zx zb dX12_vote_210 (by decide) (fun c_210 => ?_) (fun c_210 => ?_)
                    · have c_210 : ¬ (w = (0 : Int32)) := c_210
                      refine lv_iload zx zb dX12_vote_218 (lv_at hl 4 rfl) ?_
                      exact fin _ _ g4 (u_206, u_94, f, v1) 220 _ dX12_vote_220 (fun h => by cases h) (⟨vo_end (vo_4 c_9 c_21 c_31) (by omega) (by have e : x2 = C.1 := (by omega); subst e; exact hs) (by first | exact Or.inl ⟨c_210, rfl⟩ | exact Or.inr ⟨c_210, rfl⟩), Rel_cpy (fun k hk => (w_206 k hk).trans (w_94 k hk)) hr htc hdc hpc, mo_t (vo_4 c_9 c_21 c_31)⟩) hP hD hS
                    · have c_210 : w = (0 : Int32) := c_210
                      refine lv_iload zx zb dX12_vote_213 (lv_at hl 3 rfl) ?_
                      refine lv_goto (tgt := 220) zx zb dX12_vote_215 (by decide) ?_
                      exact fin _ _ f4 (u_206, u_94, f, v1) 220 _ dX12_vote_220 (fun h => by cases h) (⟨vo_end (vo_4 c_9 c_21 c_31) (by omega) (by have e : x2 = C.1 := (by omega); subst e; exact hs) (by first | exact Or.inl ⟨c_210, rfl⟩ | exact Or.inr ⟨c_210, rfl⟩), Rel_cpy (fun k hk => (w_206 k hk).trans (w_94 k hk)) hr htc hdc hpc, mo_t (vo_4 c_9 c_21 c_31)⟩) hP hD hS
                  · have c_120 : ¬ (C.1 ≤ x2) := fun h => c_120 ((nI_leI (a := C.1) (b := x2) (by omega) (by omega)).mpr h)
                    refine lv_aload_n zx zb dX12_vote_123 rfl (lv_at hl 0 rfl) ?_
                    refine g_get (v := .ref (m 1)) XX hP 0 0 rfl rfl rfl iwX12 0 (by decide) fl_X12_7 rfl dX12_vote_124 ?_
                    refine lv_iload zx zb dX12_vote_127 (lv_at hl 5 rfl) ?_
                    refine lv_iconst (v := nI 4) zx zb dX12_vote_129 (by decide) ?_
                    refine callR_Si (As := [.int (nI x2), .int (nI 4)]) (rest := [.ref (m 1)]) XX cs_X12_73 (c_X12_at Γ l x2 4 ) hP hD hS hA nil_mem nil_D rfl hl.1 rfl ⟨⟨by decide, by decide⟩, by decide, by decide⟩ (Nat.le_of_ble_eq_true rfl) dX12_vote_130 (fun r_130 H locs hw hP hS => ?_)
                    have hw := hw.symm
                    subst hw
                    refine g_ialdN (i := 15 + 5 * x2 + 4) XX hP 1 0 rfl rfl (by omega) (by decide) dX12_vote_133 ?_
                    refine g_top (y := (runM C tr Y j).2.2.2.2 x2) (Rel.c4 hr9 (by omega)) ?_
                    refine lv_aload_n zx zb dX12_vote_134 rfl (lv_at hl 0 rfl) ?_
                    refine g_get (v := .ref (m 5)) XX hP 0 0 rfl rfl rfl iwX12 4 (by decide) fl_X12_23 rfl dX12_vote_135 ?_
                    refine lv_iload zx zb dX12_vote_138 (lv_at hl 5 rfl) ?_
                    refine lv_iconst (v := nI 4) zx zb dX12_vote_140 (by decide) ?_
                    refine callR_Si (As := [.int (nI x2), .int (nI 4)]) (rest := [.ref (m 5), .int ((runM C tr Y j).2.2.2.2 x2)]) XX cs_X12_73 (c_X12_at Γ l x2 4 ) hP hD hS hA nil_mem nil_D rfl hl.1 rfl ⟨⟨by decide, by decide⟩, by decide, by decide⟩ (Nat.le_of_ble_eq_true rfl) dX12_vote_141 (fun r_141 H locs hw hP hS => ?_)
                    have hw := hw.symm
                    subst hw
                    refine g_ialdN (i := 15 + 5 * x2 + 4) XX hP 2 0 rfl rfl (by omega) (by decide) dX12_vote_144 ?_
                    refine g_top (y := Y.2.2.2.2 x2) ((w_94 _ (by omega)).trans (hr.c4 (by omega))) ?_
                    refine lv_isub zx zb dX12_vote_145 ?_
                    refine lv_iload_n zx zb dX12_vote_146 rfl (lv_at hl 1 rfl) ?_
                    refine lv_icmp_le (tgt := 154) zx zb dX12_vote_147 (by decide) (fun c_147 => ?_) (fun c_147 => ?_)
                    · have c_147 : (((runM C tr Y j).2.2.2.2 x2) - (Y.2.2.2.2 x2)) ≤ n := c_147
                      refine lv_iconst (v := nI 0) zx zb dX12_vote_154 (by decide) ?_
                      refine lv_istore (lv' := [(7, .int (nI 0)), (0, .ref (m 0)), (2, .int n), (3, .int w), (4, .int f4), (5, .int g4), (6, .int (nI x2))]) zx zb dX12_vote_155 hl (by decide) rfl (fun ls hl => ?_)
                      refine lv_iload zx zb dX12_vote_157 (lv_at hl 4 rfl) ?_
                      refine lv_iload zx zb dX12_vote_159 (lv_at hl 0 rfl) ?_
                      refine lv_if_eq (tgt := 174) zx zb dX12_vote_161 (by decide) (fun c_161 => ?_) (fun c_161 => ?_)
                      · clear c_161
                        refine lv_iconst (v := nI 0) zx zb dX12_vote_174 (by decide) ?_
                        refine lv_iadd zx zb dX12_vote_175 ?_
                        refine g_top (y := f4 + 0) rfl ?_
                        refine lv_istore (lv' := [(4, .int (f4 + 0)), (7, .int (nI 0)), (0, .ref (m 0)), (2, .int n), (3, .int w), (5, .int g4), (6, .int (nI x2))]) zx zb dX12_vote_176 hl (by decide) rfl (fun ls hl => ?_)
                        refine lv_iload zx zb dX12_vote_178 (lv_at hl 5 rfl) ?_
                        refine lv_iload zx zb dX12_vote_180 (lv_at hl 1 rfl) ?_
                        refine lv_if_eq (tgt := 189) zx zb dX12_vote_182 (by decide) (fun c_182 => ?_) (fun c_182 => ?_)
                        · clear c_182
                          refine lv_aload_n zx zb dX12_vote_189 rfl (lv_at hl 2 rfl) ?_
                          refine g_get (v := .ref (m 10)) XX hP 0 0 rfl rfl rfl iwX12 16 (by decide) fl_X12_38 rfl dX12_vote_190 ?_
                          refine lv_iload zx zb dX12_vote_193 (lv_at hl 6 rfl) ?_
                          refine g_ialdN (i := x2) XX hP 4 0 rfl rfl (by omega) (by decide) dX12_vote_195 ?_
                          refine lv_iadd zx zb dX12_vote_196 ?_
                          refine lv_istore (lv' := [(5, .int (g4 + (v1 x2))), (4, .int (f4 + 0)), (7, .int (nI 0)), (0, .ref (m 0)), (2, .int n), (3, .int w), (6, .int (nI x2))]) zx zb dX12_vote_197 hl (by decide) rfl (fun ls hl => ?_)
                          refine lv_iinc (v := nI (x2 + 1)) (lv' := [(6, .int (nI (x2 + 1))), (5, .int (g4 + (v1 x2))), (4, .int (f4 + 0)), (7, .int (nI 0)), (0, .ref (m 0)), (2, .int n), (3, .int w)]) zx zb dX12_vote_199 hl (k := 6) rfl (nI_inc _ 1) (by decide) rfl (fun ls hl => ?_)
                          refine lv_goto (tgt := 112) zx zb dX12_vote_202 (by decide) ?_
                          exact ih112 (x2 + 1) (f4 + 0) (g4 + (v1 x2)) (by omega) (by first | exact vm_s hs (hv x2 (by omega)) c_147 | exact vm_g hs (hv x2 (by omega)) c_147) (by omega) _ _ hP hD hS _ (lv_sub hl [4, 5, 6, 2, 1, 0] rfl)
                        · exact absurd c_182 (by decide)
                      · exact absurd c_161 (by decide)
                    · have c_147 : ¬ ((((runM C tr Y j).2.2.2.2 x2) - (Y.2.2.2.2 x2)) ≤ n) := c_147
                      refine lv_iconst (v := nI 1) zx zb dX12_vote_150 (by decide) ?_
                      refine lv_goto (tgt := 155) zx zb dX12_vote_151 (by decide) ?_
                      refine lv_istore (lv' := [(7, .int (nI 1)), (0, .ref (m 0)), (2, .int n), (3, .int w), (4, .int f4), (5, .int g4), (6, .int (nI x2))]) zx zb dX12_vote_155 hl (by decide) rfl (fun ls hl => ?_)
                      refine lv_iload zx zb dX12_vote_157 (lv_at hl 4 rfl) ?_
                      refine lv_iload zx zb dX12_vote_159 (lv_at hl 0 rfl) ?_
                      refine lv_if_eq (tgt := 174) zx zb dX12_vote_161 (by decide) (fun c_161 => ?_) (fun c_161 => ?_)
                      · exact absurd c_161 (by decide)
                      · clear c_161
                        refine lv_aload_n zx zb dX12_vote_164 rfl (lv_at hl 1 rfl) ?_
                        refine g_get (v := .ref (m 10)) XX hP 0 0 rfl rfl rfl iwX12 16 (by decide) fl_X12_38 rfl dX12_vote_165 ?_
                        refine lv_iload zx zb dX12_vote_168 (lv_at hl 6 rfl) ?_
                        refine g_ialdN (i := x2) XX hP 4 0 rfl rfl (by omega) (by decide) dX12_vote_170 ?_
                        refine lv_goto (tgt := 175) zx zb dX12_vote_171 (by decide) ?_
                        refine lv_iadd zx zb dX12_vote_175 ?_
                        refine lv_istore (lv' := [(4, .int (f4 + (v1 x2))), (7, .int (nI 1)), (0, .ref (m 0)), (2, .int n), (3, .int w), (5, .int g4), (6, .int (nI x2))]) zx zb dX12_vote_176 hl (by decide) rfl (fun ls hl => ?_)
                        refine lv_iload zx zb dX12_vote_178 (lv_at hl 5 rfl) ?_
                        refine lv_iload zx zb dX12_vote_180 (lv_at hl 1 rfl) ?_
                        refine lv_if_eq (tgt := 189) zx zb dX12_vote_182 (by decide) (fun c_182 => ?_) (fun c_182 => ?_)
                        · exact absurd c_182 (by decide)
                        · clear c_182
                          refine lv_iconst (v := nI 0) zx zb dX12_vote_185 (by decide) ?_
                          refine lv_goto (tgt := 196) zx zb dX12_vote_186 (by decide) ?_
                          refine lv_iadd zx zb dX12_vote_196 ?_
                          refine g_top (y := g4 + 0) rfl ?_
                          refine lv_istore (lv' := [(5, .int (g4 + 0)), (4, .int (f4 + (v1 x2))), (7, .int (nI 1)), (0, .ref (m 0)), (2, .int n), (3, .int w), (6, .int (nI x2))]) zx zb dX12_vote_197 hl (by decide) rfl (fun ls hl => ?_)
                          refine lv_iinc (v := nI (x2 + 1)) (lv' := [(6, .int (nI (x2 + 1))), (5, .int (g4 + 0)), (4, .int (f4 + (v1 x2))), (7, .int (nI 1)), (0, .ref (m 0)), (2, .int n), (3, .int w)]) zx zb dX12_vote_199 hl (k := 6) rfl (nI_inc _ 1) (by decide) rfl (fun ls hl => ?_)
                          refine lv_goto (tgt := 112) zx zb dX12_vote_202 (by decide) ?_
                          exact ih112 (x2 + 1) (f4 + (v1 x2)) (g4 + 0) (by omega) (by first | exact vm_s hs (hv x2 (by omega)) c_147 | exact vm_g hs (hv x2 (by omega)) c_147) (by omega) _ _ hP hD hS _ (lv_sub hl [4, 5, 6, 2, 1, 0] rfl)
              exact L112 _ 0 0 0 (by omega) (rfl) (Nat.lt_succ_self _) _ _ hP hD hS _ (lv_sub hl [3, 5, 6, 2, 1, 0] rfl)
            · have c_50 : ¬ (C.1 ≤ x1) := fun h => c_50 ((nI_leI (a := C.1) (b := x1) (by omega) (by omega)).mpr h)
              refine lv_aload_n zx zb dX12_vote_53 rfl (lv_at hl 0 rfl) ?_
              refine g_get (v := .ref (m 10)) XX hP 0 0 rfl rfl rfl iwX12 16 (by decide) fl_X12_38 rfl dX12_vote_54 ?_
              refine lv_iload zx zb dX12_vote_57 (lv_at hl 4 rfl) ?_
              refine lv_aload_n zx zb dX12_vote_59 rfl (lv_at hl 0 rfl) ?_
              refine lv_iload zx zb dX12_vote_60 (lv_at hl 4 rfl) ?_
              refine call_Vi (As := [.int (nI x1)]) (rest := [.int (nI x1), .ref (m 10)]) XX cv_X12_206 (c_X12_isLost Γ l m M b C tr Y pc P x1 (hr) (by omega)) hP hD hS hA [0, 1] (by decide) rfl (fun _ => rfl) 0 0 rfl rfl rfl rfl hl.1 rfl ⟨⟨by decide, by decide⟩, by decide, by decide⟩ (Nat.le_of_ble_eq_true rfl) dX12_vote_62 (fun r_62 u H locs hw hP hD hS => ?_)
              have hw := hw.symm
              subst hw
              have hP : bP Γ [bMo Γ m M, bA Γ (m 1) 259 b, bA Γ (m 5) 259 hh, bA Γ (m 6) 3 f, bA Γ (m 10) 8 v1] H := hP
              have hD : bD AA [bMo Γ m M, bA Γ (m 1) 259 b, bA Γ (m 5) 259 hh, bA Γ (m 6) 3 f, bA Γ (m 10) 8 v1] := hD
              refine lv_if_eq (tgt := 72) zx zb dX12_vote_65 (by decide) (fun c_65 => ?_) (fun c_65 => ?_)
              · have c_65 : (yrLost Y x1) = false := bI_0.mp c_65
                refine lv_aload_n zx zb dX12_vote_72 rfl (lv_at hl 0 rfl) ?_
                refine g_get (v := .ref (m 1)) XX hP 0 0 rfl rfl rfl iwX12 0 (by decide) fl_X12_7 rfl dX12_vote_73 ?_
                refine lv_iload zx zb dX12_vote_76 (lv_at hl 4 rfl) ?_
                refine lv_iconst (v := nI 1) zx zb dX12_vote_78 (by decide) ?_
                refine callR_Si (As := [.int (nI x1), .int (nI 1)]) (rest := [.ref (m 1), .int (nI x1), .ref (m 10)]) XX cs_X12_73 (c_X12_at Γ l x1 1 ) hP hD hS hA nil_mem nil_D rfl hl.1 rfl ⟨⟨by decide, by decide⟩, by decide, by decide⟩ (Nat.le_of_ble_eq_true rfl) dX12_vote_79 (fun r_79 H locs hw hP hS => ?_)
                have hw := hw.symm
                subst hw
                refine g_ialdN (i := 15 + 5 * x1 + 1) XX hP 1 0 rfl rfl (by omega) (by decide) dX12_vote_82 ?_
                refine g_top (y := C.2.2.2.1 x1) (Rel.c1 hr (by omega)) ?_
                refine lv_bipush (v := nI 10) zx zb dX12_vote_83 (by decide) ?_
                refine lv_idiv zx zb dX12_vote_85 (by decide) ?_
                refine g_top (y := (C.2.2.2.1 x1) / 10) rfl ?_
                refine g_iastN (x := (C.2.2.2.1 x1) / 10) (i := x1) (blk' := bA Γ (m 10) 8 (upd v1 x1 ((C.2.2.2.1 x1) / 10))) (bs' := [bMo Γ m M, bA Γ (m 1) 259 b, bA Γ (m 5) 259 hh, bA Γ (m 6) 3 f, bA Γ (m 10) 8 (upd v1 x1 ((C.2.2.2.1 x1) / 10))]) XX hP hD hS 4 0 rfl rfl (by omega) (by decide) rfl rfl dX12_vote_86 (fun H locs hP hD hS => ?_)
                refine lv_iinc (v := nI (x1 + 1)) (lv' := [(4, .int (nI (x1 + 1))), (0, .ref (m 0)), (1, .int (nI j)), (2, .int n), (3, .int w)]) zx zb dX12_vote_87 hl (k := 4) rfl (nI_inc _ 1) (by decide) rfl (fun ls hl => ?_)
                refine lv_goto (tgt := 42) zx zb dX12_vote_90 (by decide) ?_
                exact ih42 (x1 + 1) (upd v1 x1 ((C.2.2.2.1 x1) / 10)) (by omega) (by first | exact vt_s hv (by rw [if_pos c_65]; rfl) | exact vt_s hv (by rw [if_neg (by rw [c_65]; exact Bool.false_ne_true)])) (by omega) _ _ hP hD hS _ (lv_sub hl [1, 2, 3, 4, 0] rfl)
              · have c_65 : (yrLost Y x1) = true := bI_ne c_65
                refine lv_iconst (v := nI 0) zx zb dX12_vote_68 (by decide) ?_
                refine lv_goto (tgt := 86) zx zb dX12_vote_69 (by decide) ?_
                refine g_iastN (x := nI 0) (i := x1) (blk' := bA Γ (m 10) 8 (upd v1 x1 (nI 0))) (bs' := [bMo Γ m M, bA Γ (m 1) 259 b, bA Γ (m 5) 259 hh, bA Γ (m 6) 3 f, bA Γ (m 10) 8 (upd v1 x1 (nI 0))]) XX hP hD hS 4 0 rfl rfl (by omega) (by decide) rfl rfl dX12_vote_86 (fun H locs hP hD hS => ?_)
                refine lv_iinc (v := nI (x1 + 1)) (lv' := [(4, .int (nI (x1 + 1))), (0, .ref (m 0)), (1, .int (nI j)), (2, .int n), (3, .int w)]) zx zb dX12_vote_87 hl (k := 4) rfl (nI_inc _ 1) (by decide) rfl (fun ls hl => ?_)
                refine lv_goto (tgt := 42) zx zb dX12_vote_90 (by decide) ?_
                exact ih42 (x1 + 1) (upd v1 x1 (nI 0)) (by omega) (by first | exact vt_s hv (by rw [if_pos c_65]; rfl) | exact vt_s hv (by rw [if_neg (by rw [c_65]; exact Bool.false_ne_true)])) (by omega) _ _ hP hD hS _ (lv_sub hl [1, 2, 3, 4, 0] rfl)
        exact L42 _ 0 vv (by omega) (fun k hk => absurd hk (Nat.not_lt_zero _)) (Nat.lt_succ_self _) _ _ hP hD hS _ (lv_sub hl [1, 2, 3, 4, 0] rfl)
      · have c_31 : (wi w 0 1) = false := bI_0.mp c_31
        refine lv_aload_n zx zb dX12_vote_34 rfl (lv_at hl 0 rfl) ?_
        refine call_Vi (As := []) (rest := []) XX cv_X12_59 (c_X12_bad Γ l m M f ) hP hD hS hA [0, 3] (by decide) rfl (fun _ => rfl) 0 0 rfl rfl rfl rfl hl.1 rfl ⟨⟨by decide, by decide⟩, by decide, by decide⟩ (Nat.le_of_ble_eq_true rfl) dX12_vote_35 (fun r_35 u H locs hw hP hD hS => ?_)
        obtain ⟨hw1, hw2⟩ := hw
        have hw1 := hw1.symm
        have hw2 := hw2.symm
        subst hw1
        subst hw2
        have hP : bP Γ [bMo Γ m M, bA Γ (m 1) 259 b, bA Γ (m 5) 259 hh, bA Γ (m 6) 3 (moRef M f 0), bA Γ (m 10) 8 vv] H := hP
        have hD : bD AA [bMo Γ m M, bA Γ (m 1) 259 b, bA Γ (m 5) 259 hh, bA Γ (m 6) 3 (moRef M f 0), bA Γ (m 10) 8 vv] := hD
        exact fin _ _ (-2) (b, hh, (moRef M f 0), vv) 38 _ dX12_vote_38 (fun h => by cases h) (by first | exact ⟨vo_b (vo_1 c_9), hr, mo_f (vo_1 c_9)⟩ | exact ⟨vo_b (vo_2 c_21), hr, mo_f (vo_2 c_21)⟩ | exact ⟨vo_b (vo_3 c_31), hr, mo_f (vo_3 c_31)⟩) hP hD hS
