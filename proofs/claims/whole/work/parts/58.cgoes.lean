theorem cs_X12_209 : CWS RX12 209 yX12_lesser cX12_lesser 2 (some (.int)) 2 := ⟨cd_X12_lesser, st_X12_lesser, in_X12, ml_X12_209, by decide +kernel⟩
theorem cv_X12_196 : CWV RX12 196 RX12 yX12_dueOf cX12_dueOf 5 (some (.int)) 2 := ⟨cd_X12_dueOf, im_X12_dueOf, se_X12_X12_dueOf_X12_dueOf, in_X12, ml_X12_196, by decide +kernel⟩
theorem cv_X12_199 : CWV RX12 199 RX12 yX12_guardedBy cX12_guardedBy 7 (some (.int)) 2 := ⟨cd_X12_guardedBy, im_X12_guardedBy, se_X12_X12_guardedBy_X12_guardedBy, in_X12, ml_X12_199, by decide +kernel⟩
theorem cv_X12_202 : CWV RX12 202 RX12 yX12_floods cX12_floods 7 (some (.int)) 3 := ⟨cd_X12_floods, im_X12_floods, se_X12_X12_floods_X12_floods, in_X12, ml_X12_202, by decide +kernel⟩
theorem cv_X12_206 : CWV RX12 206 RX12 yX12_isLost cX12_isLost 2 (some (.boolean)) 1 := ⟨cd_X12_isLost, im_X12_isLost, se_X12_X12_isLost_X12_isLost, in_X12, ml_X12_206, by decide +kernel⟩
set_option maxHeartbeats 4000000 in
set_option maxRecDepth 100000 in
theorem c_X12_goes (Γ : GG) (l : Launch) (m : Nat → Nat) (M : MoV) (b : Nat → Int32) (C : CoV) (tr : Nat → TrV) (Y : YrV) (pc : Nat) (P : Nat → YrV) (q : Int32) (hr : Rel b C tr Y pc P) (hI : Inv C tr Y) : Ci Γ l yX12_goes cX12_goes 6 (some (.int)) 3 73 0 0 [.ref (m 0), .int q] [bMo Γ m M, bA Γ (m 1) 259 b] (fun (r : Int32) (u : Nat → Int32) => r = coFl C tr Y q ∧ Rel u C tr (coYear C tr Y q) pc P) (fun (u : Nat → Int32) => [bMo Γ m M, bA Γ (m 1) 259 u]) := by
  refine Ci.of (Or.inl rfl) (by decide) (Nat.le_of_ble_eq_true rfl) ?_
  intro pp ee ss mm bb me cd AA QQ XX hnm hA hP hD fin ls hl
  obtain ⟨zx, zb, hml, hown, hts, hK⟩ := id XX
  have hS : va_S AA ss.heap ss.heap [] := va_S.rf
  have hl : lv_has ls 6 [(0, .ref (m 0)), (1, .int q)] := hl
  have htc := inv_tc hI
  have hdc := inv_dc hI
  have hn := inv_n hI
  refine lv_aload_n zx zb dX12_goes_0 rfl (lv_at hl 0 rfl) ?_
  refine g_get (v := .ref (m 1)) XX hP 0 0 rfl rfl rfl iwX12 0 (by decide) fl_X12_7 rfl dX12_goes_1 ?_
  refine lv_iconst (v := nI 1) zx zb dX12_goes_4 (by decide) ?_
  refine g_ialdN (i := 1) XX hP 1 0 rfl rfl (by omega) (by decide) dX12_goes_5 ?_
  refine g_top (y := Y.1) (Rel.y hr) ?_
  refine lv_istore_n (lv' := [(2, .int Y.1), (0, .ref (m 0)), (1, .int q)]) zx zb dX12_goes_6 rfl hl (by decide) rfl (fun ls hl => ?_)
  refine lv_iconst (v := nI 0) zx zb dX12_goes_7 (by decide) ?_
  refine lv_istore_n (lv' := [(3, .int (nI 0)), (2, .int Y.1), (0, .ref (m 0)), (1, .int q)]) zx zb dX12_goes_8 rfl hl (by decide) rfl (fun ls hl => ?_)
  have L9 : ∀ (nn : Nat) (t : Nat) (b1 : Nat → Int32) (Z : YrV), (t ≤ C.2.2.2.2.2.2.1) → (Rel b1 C tr Z pc P) → (Z = coPay tr Y t) → (Z.1 = Y.1) → C.2.2.2.2.2.2.1 - t < nn → ∀ (H : Heap) (locs : List Loc), bP Γ [bMo Γ m M, bA Γ (m 1) 259 b1] H → bD AA [bMo Γ m M, bA Γ (m 1) 259 b1] → va_S AA ss.heap H locs → ∀ (ls : Array Slot), lv_has ls 6 [(0, .ref (m 0)), (1, .int q), (2, .int Y.1), (3, .int (nI t))] → W pp l ee { frames := 3, cells := 0, slots := 0, locals := 73 } ss mm [.ref (m 0), .int q].toArray bb me cd H locs 0 0 QQ (F0 mm 9 ls []) := by
    intro nn
    induction nn with
    | zero => intro t b1 Z hti hr1 hZ hZy hm; exact absurd hm (Nat.not_lt_zero _)
    | succ nn ih9 =>
      intro t b1 Z hti hr1 hZ hZy hm9 H locs hP hD hS ls hl
      have hIZ := inv_cong hI hZy
      refine lv_iload_n zx zb dX12_goes_9 rfl (lv_at hl 3 rfl) ?_
      refine lv_aload_n zx zb dX12_goes_10 rfl (lv_at hl 0 rfl) ?_
      refine g_get (v := .ref (m 1)) XX hP 0 0 rfl rfl rfl iwX12 0 (by decide) fl_X12_7 rfl dX12_goes_11 ?_
      refine lv_iconst (v := nI 4) zx zb dX12_goes_14 (by decide) ?_
      refine g_ialdN (i := 4) XX hP 1 0 rfl rfl (by omega) (by decide) dX12_goes_15 ?_
      refine g_top (y := nI (C.2.2.2.2.2.2.1)) (Rel.tc hr1) ?_
      refine lv_icmp_ge (tgt := 95) zx zb dX12_goes_16 (by decide) (fun c_16 => ?_) (fun c_16 => ?_)
      · have c_16 : C.2.2.2.2.2.2.1 ≤ t := (nI_leI (a := C.2.2.2.2.2.2.1) (b := t) (by omega) (by omega)).mp c_16
        have et : t = C.2.2.2.2.2.2.1 := by omega
        subst et
        refine lv_aload_n zx zb dX12_goes_95 rfl (lv_at hl 0 rfl) ?_
        refine lv_iload_n zx zb dX12_goes_96 rfl (lv_at hl 1 rfl) ?_
        refine lv_aload_n zx zb dX12_goes_97 rfl (lv_at hl 0 rfl) ?_
        refine lv_iload_n zx zb dX12_goes_98 rfl (lv_at hl 2 rfl) ?_
        refine lv_iload_n zx zb dX12_goes_99 rfl (lv_at hl 1 rfl) ?_
        refine call_Vi (As := [.int Y.1, .int q]) (rest := [.int q, .ref (m 0)]) XX cv_X12_199 (c_X12_guardedBy Γ l m M b1 C tr Z pc P Y.1 q (hr1) (hIZ) (hZy.symm)) hP hD hS hA [0, 1] (by decide) rfl (fun _ => rfl) 0 0 rfl rfl rfl rfl hl.1 rfl ⟨⟨by decide, by decide⟩, by decide, by decide⟩ (Nat.le_of_ble_eq_true rfl) dX12_goes_100 (fun r_100 u H locs hw hP hD hS => ?_)
        have hw := hw.symm
        subst hw
        have hP : bP Γ [bMo Γ m M, bA Γ (m 1) 259 b1] H := hP
        have hD : bD AA [bMo Γ m M, bA Γ (m 1) 259 b1] := hD
        refine lv_iconst (v := nI 0) zx zb dX12_goes_103 (by decide) ?_
        refine call_Vi (As := [.int q, .int (coGuards C tr Z q C.2.2.2.2.2.2.1), .int (nI 0)]) (rest := []) XX cv_X12_202 (c_X12_floods Γ l m M b1 C tr Z pc P q (coGuards C tr Z q C.2.2.2.2.2.2.1) 0 0 (hr1) (hIZ) (fun x _ t _ _ => by rw [hasB_0, hasB_0])) hP hD hS hA [0, 1] (by decide) rfl (fun _ => rfl) 0 0 rfl rfl rfl rfl hl.1 rfl ⟨⟨by decide, by decide⟩, by decide, by decide⟩ (Nat.le_of_ble_eq_true rfl) dX12_goes_104 (fun r_104 u H locs hw hP hD hS => ?_)
        have hw := hw.symm
        subst hw
        have hP : bP Γ [bMo Γ m M, bA Γ (m 1) 259 b1] H := hP
        have hD : bD AA [bMo Γ m M, bA Γ (m 1) 259 b1] := hD
        refine g_top (y := coFl C tr Y q) (by rw [hZ]; rfl) ?_
        refine lv_istore_n (lv' := [(3, .int (coFl C tr Y q)), (0, .ref (m 0)), (1, .int q), (2, .int Y.1)]) zx zb dX12_goes_107 rfl hl (by decide) rfl (fun ls hl => ?_)
        refine lv_iconst (v := nI 0) zx zb dX12_goes_108 (by decide) ?_
        refine lv_istore (lv' := [(4, .int (nI 0)), (3, .int (coFl C tr Y q)), (0, .ref (m 0)), (1, .int q), (2, .int Y.1)]) zx zb dX12_goes_109 hl (by decide) rfl (fun ls hl => ?_)
        have L111 : ∀ (nn : Nat) (x1 : Nat) (b2 : Nat → Int32) (Z2 : YrV), (x1 ≤ C.1) → (Rel b2 C tr Z2 pc P) → (Z2 = runB (coRun C (coFl C tr Y q) (coPay tr Y (coTc C)) x1)) → C.1 - x1 < nn → ∀ (H : Heap) (locs : List Loc), bP Γ [bMo Γ m M, bA Γ (m 1) 259 b2] H → bD AA [bMo Γ m M, bA Γ (m 1) 259 b2] → va_S AA ss.heap H locs → ∀ (ls : Array Slot), lv_has ls 6 [(0, .ref (m 0)), (3, .int (coFl C tr Y q)), (4, .int (nI x1))] → W pp l ee { frames := 3, cells := 0, slots := 0, locals := 73 } ss mm [.ref (m 0), .int q].toArray bb me cd H locs 0 0 QQ (F0 mm 111 ls []) := by
          intro nn
          induction nn with
          | zero => intro x1 b2 Z2 hx hr1 hZ2 hm; exact absurd hm (Nat.not_lt_zero _)
          | succ nn ih111 =>
            intro x1 b2 Z2 hx hr1 hZ2 hm111 H locs hP hD hS ls hl
            refine lv_iload zx zb dX12_goes_111 (lv_at hl 2 rfl) ?_
            refine lv_aload_n zx zb dX12_goes_113 rfl (lv_at hl 0 rfl) ?_
            refine g_get (v := .ref (m 1)) XX hP 0 0 rfl rfl rfl iwX12 0 (by decide) fl_X12_7 rfl dX12_goes_114 ?_
            refine lv_iconst (v := nI 0) zx zb dX12_goes_117 (by decide) ?_
            refine g_ialdN (i := 0) XX hP 1 0 rfl rfl (by omega) (by decide) dX12_goes_118 ?_
            refine g_top (y := nI (C.1)) (Rel.n hr1) ?_
            refine lv_icmp_ge (tgt := 248) zx zb dX12_goes_119 (by decide) (fun c_119 => ?_) (fun c_119 => ?_)
            · have c_119 : C.1 ≤ x1 := (nI_leI (a := C.1) (b := x1) (by omega) (by omega)).mp c_119
              refine lv_aload_n zx zb dX12_goes_248 rfl (lv_at hl 0 rfl) ?_
              refine g_get (v := .ref (m 1)) XX hP 0 0 rfl rfl rfl iwX12 0 (by decide) fl_X12_7 rfl dX12_goes_249 ?_
              refine lv_iconst (v := nI 2) zx zb dX12_goes_252 (by decide) ?_
              refine lv_sipush (v := nI 999) zx zb dX12_goes_253 (by decide) ?_
              refine lv_aload_n zx zb dX12_goes_256 rfl (lv_at hl 0 rfl) ?_
              refine g_get (v := .ref (m 1)) XX hP 0 0 rfl rfl rfl iwX12 0 (by decide) fl_X12_7 rfl dX12_goes_257 ?_
              refine lv_iconst (v := nI 2) zx zb dX12_goes_260 (by decide) ?_
              refine g_ialdN (i := 2) XX hP 1 0 rfl rfl (by omega) (by decide) dX12_goes_261 ?_
              refine g_top (y := Z2.2.1) (Rel.be hr1) ?_
              refine callR_Si (As := [.int (nI 999), .int Z2.2.1]) (rest := [.int (nI 2), .ref (m 1)]) XX cs_X12_209 (c_X12_lesser Γ l 999 Z2.2.1 ) hP hD hS hA nil_mem nil_D rfl hl.1 rfl ⟨⟨by decide, by decide⟩, by decide, by decide⟩ (Nat.le_of_ble_eq_true rfl) dX12_goes_262 (fun r_262 H locs hw hP hS => ?_)
              have hw := hw.symm
              subst hw
              refine g_iastN (x := imin Z2.2.1 999) (i := 2) (blk' := bA Γ (m 1) 259 (upd b2 2 (imin Z2.2.1 999))) (bs' := [bMo Γ m M, bA Γ (m 1) 259 (upd b2 2 (imin Z2.2.1 999))]) XX hP hD hS 1 0 rfl rfl (by omega) (by decide) rfl rfl dX12_goes_265 (fun H locs hP hD hS => ?_)
              have hr1 := Rel_bells (v := imin Z2.2.1 999) hr1 htc hdc
              generalize upd b2 2 (imin Z2.2.1 999) = b_265 at hP hD hr1
              obtain ⟨Y_265, eY_265⟩ : ∃ Zq_ : YrV, Zq_ = (Z2.1, imin Z2.2.1 999, Z2.2.2) := ⟨_, rfl⟩
              rw [← eY_265] at hr1
              refine lv_aload_n zx zb dX12_goes_266 rfl (lv_at hl 0 rfl) ?_
              refine g_get (v := .ref (m 1)) XX hP 0 0 rfl rfl rfl iwX12 0 (by decide) fl_X12_7 rfl dX12_goes_267 ?_
              refine lv_iconst (v := nI 1) zx zb dX12_goes_270 (by decide) ?_
              refine lv_dup2_11 zx zb dX12_goes_271 rfl rfl ?_
              refine g_ialdN (i := 1) XX hP 1 0 rfl rfl (by omega) (by decide) dX12_goes_272 ?_
              refine g_top (y := Y_265.1) (Rel.y hr1) ?_
              refine lv_iconst (v := nI 1) zx zb dX12_goes_273 (by decide) ?_
              refine lv_iadd zx zb dX12_goes_274 ?_
              refine g_top (y := Y_265.1 + 1) rfl ?_
              refine g_iastN (x := Y_265.1 + 1) (i := 1) (blk' := bA Γ (m 1) 259 (upd b_265 1 (Y_265.1 + 1))) (bs' := [bMo Γ m M, bA Γ (m 1) 259 (upd b_265 1 (Y_265.1 + 1))]) XX hP hD hS 1 0 rfl rfl (by omega) (by decide) rfl rfl dX12_goes_275 (fun H locs hP hD hS => ?_)
              have hr1 := Rel_year (v := Y_265.1 + 1) hr1 htc hdc
              generalize upd b_265 1 (Y_265.1 + 1) = b_275 at hP hD hr1
              obtain ⟨Y_275, eY_275⟩ : ∃ Zq_ : YrV, Zq_ = (Y_265.1 + 1, Y_265.2) := ⟨_, rfl⟩
              rw [← eY_275] at hr1
              refine lv_iload_n zx zb dX12_goes_276 rfl (lv_at hl 1 rfl) ?_
              exact fin _ _ (coFl C tr Y q) b_275 277 _ dX12_goes_277 (fun h => by cases h) (⟨rfl, by have ex : x1 = C.1 := (by omega); subst ex; rw [← goes_end hZ2 eY_265 eY_275]; exact hr1⟩) hP hD hS
            · have c_119 : ¬ (C.1 ≤ x1) := fun h => c_119 ((nI_leI (a := C.1) (b := x1) (by omega) (by omega)).mpr h)
              refine lv_iload_n zx zb dX12_goes_122 rfl (lv_at hl 1 rfl) ?_
              refine lv_iload zx zb dX12_goes_123 (lv_at hl 2 rfl) ?_
              refine lv_ishr zx zb dX12_goes_125 ?_
              refine g_top (y := (coFl C tr Y q) >>> (nI x1)) (sh31r _ (by omega)) ?_
              refine lv_iconst (v := nI 1) zx zb dX12_goes_126 (by decide) ?_
              refine lv_iand zx zb dX12_goes_127 ?_
              refine g_top (y := ((coFl C tr Y q) >>> (nI x1)) &&& 1) rfl ?_
              refine lv_iconst (v := nI 1) zx zb dX12_goes_128 (by decide) ?_
              refine lv_icmp_ne (tgt := 136) zx zb dX12_goes_129 (by decide) (fun c_129 => ?_) (fun c_129 => ?_)
              · have c_129 : hasB (coFl C tr Y q) x1 = false := shrBf (by omega) c_129
                refine lv_iconst (v := nI 0) zx zb dX12_goes_136 (by decide) ?_
                refine lv_istore (lv' := [(5, .int (nI 0)), (0, .ref (m 0)), (3, .int (coFl C tr Y q)), (4, .int (nI x1))]) zx zb dX12_goes_137 hl (by decide) rfl (fun ls hl => ?_)
                refine lv_aload_n zx zb dX12_goes_139 rfl (lv_at hl 1 rfl) ?_
                refine g_get (v := .ref (m 1)) XX hP 0 0 rfl rfl rfl iwX12 0 (by decide) fl_X12_7 rfl dX12_goes_140 ?_
                refine lv_iload zx zb dX12_goes_143 (lv_at hl 3 rfl) ?_
                refine lv_iconst (v := nI 4) zx zb dX12_goes_145 (by decide) ?_
                refine callR_Si (As := [.int (nI x1), .int (nI 4)]) (rest := [.ref (m 1)]) XX cs_X12_73 (c_X12_at Γ l x1 4 ) hP hD hS hA nil_mem nil_D rfl hl.1 rfl ⟨⟨by decide, by decide⟩, by decide, by decide⟩ (Nat.le_of_ble_eq_true rfl) dX12_goes_146 (fun r_146 H locs hw hP hS => ?_)
                have hw := hw.symm
                subst hw
                refine lv_dup2_11 zx zb dX12_goes_149 rfl rfl ?_
                refine g_ialdN (i := 15 + 5 * x1 + 4) XX hP 1 0 rfl rfl (by omega) (by decide) dX12_goes_150 ?_
                refine g_top (y := Z2.2.2.2.2 x1) (Rel.c4 hr1 (by omega)) ?_
                refine lv_iload zx zb dX12_goes_151 (lv_at hl 0 rfl) ?_
                refine lv_if_eq (tgt := 160) zx zb dX12_goes_153 (by decide) (fun c_153 => ?_) (fun c_153 => ?_)
                · clear c_153
                  refine lv_iconst (v := nI 0) zx zb dX12_goes_160 (by decide) ?_
                  refine lv_iadd zx zb dX12_goes_161 ?_
                  refine g_top (y := (Z2.2.2.2.2 x1) + 0) rfl ?_
                  refine g_iastN (x := (Z2.2.2.2.2 x1) + 0) (i := 15 + 5 * x1 + 4) (blk' := bA Γ (m 1) 259 (upd b2 (15 + 5 * x1 + 4) ((Z2.2.2.2.2 x1) + 0))) (bs' := [bMo Γ m M, bA Γ (m 1) 259 (upd b2 (15 + 5 * x1 + 4) ((Z2.2.2.2.2 x1) + 0))]) XX hP hD hS 1 0 rfl rfl (by omega) (by decide) rfl rfl dX12_goes_162 (fun H locs hP hD hS => ?_)
                  have hr1 := Rel_fl (v := (Z2.2.2.2.2 x1) + 0) hr1 htc hdc (show x1 < 8 by omega)
                  generalize upd b2 (15 + 5 * x1 + 4) ((Z2.2.2.2.2 x1) + 0) = b_162 at hP hD hr1
                  obtain ⟨Y_162, eY_162⟩ : ∃ Zq_ : YrV, Zq_ = (Z2.1, Z2.2.1, Z2.2.2.1, Z2.2.2.2.1, upd Z2.2.2.2.2 x1 ((Z2.2.2.2.2 x1) + 0)) := ⟨_, rfl⟩
                  rw [← eY_162] at hr1
                  refine lv_aload_n zx zb dX12_goes_163 rfl (lv_at hl 1 rfl) ?_
                  refine g_get (v := .ref (m 1)) XX hP 0 0 rfl rfl rfl iwX12 0 (by decide) fl_X12_7 rfl dX12_goes_164 ?_
                  refine lv_iload zx zb dX12_goes_167 (lv_at hl 3 rfl) ?_
                  refine lv_iconst (v := nI 3) zx zb dX12_goes_169 (by decide) ?_
                  refine callR_Si (As := [.int (nI x1), .int (nI 3)]) (rest := [.ref (m 1)]) XX cs_X12_73 (c_X12_at Γ l x1 3 ) hP hD hS hA nil_mem nil_D rfl hl.1 rfl ⟨⟨by decide, by decide⟩, by decide, by decide⟩ (Nat.le_of_ble_eq_true rfl) dX12_goes_170 (fun r_170 H locs hw hP hS => ?_)
                  have hw := hw.symm
                  subst hw
                  refine lv_dup2_11 zx zb dX12_goes_173 rfl rfl ?_
                  refine g_ialdN (i := 15 + 5 * x1 + 3) XX hP 1 0 rfl rfl (by omega) (by decide) dX12_goes_174 ?_
                  refine g_top (y := Y_162.2.2.2.1 x1) (Rel.c3 hr1 (by omega)) ?_
                  refine lv_iload zx zb dX12_goes_175 (lv_at hl 0 rfl) ?_
                  refine lv_if_eq (tgt := 198) zx zb dX12_goes_177 (by decide) (fun c_177 => ?_) (fun c_177 => ?_)
                  · clear c_177
                    refine lv_iconst (v := nI 0) zx zb dX12_goes_198 (by decide) ?_
                    refine lv_isub zx zb dX12_goes_199 ?_
                    refine g_top (y := (Y_162.2.2.2.1 x1) - 0) rfl ?_
                    refine g_iastN (x := (Y_162.2.2.2.1 x1) - 0) (i := 15 + 5 * x1 + 3) (blk' := bA Γ (m 1) 259 (upd b_162 (15 + 5 * x1 + 3) ((Y_162.2.2.2.1 x1) - 0))) (bs' := [bMo Γ m M, bA Γ (m 1) 259 (upd b_162 (15 + 5 * x1 + 3) ((Y_162.2.2.2.1 x1) - 0))]) XX hP hD hS 1 0 rfl rfl (by omega) (by decide) rfl rfl dX12_goes_200 (fun H locs hP hD hS => ?_)
                    have hr1 := Rel_dike (v := (Y_162.2.2.2.1 x1) - 0) hr1 htc hdc (show x1 < 8 by omega)
                    generalize upd b_162 (15 + 5 * x1 + 3) ((Y_162.2.2.2.1 x1) - 0) = b_200 at hP hD hr1
                    obtain ⟨Y_200, eY_200⟩ : ∃ Zq_ : YrV, Zq_ = (Y_162.1, Y_162.2.1, Y_162.2.2.1, upd Y_162.2.2.2.1 x1 ((Y_162.2.2.2.1 x1) - 0), Y_162.2.2.2.2) := ⟨_, rfl⟩
                    rw [← eY_200] at hr1
                    refine lv_aload_n zx zb dX12_goes_201 rfl (lv_at hl 1 rfl) ?_
                    refine g_get (v := .ref (m 1)) XX hP 0 0 rfl rfl rfl iwX12 0 (by decide) fl_X12_7 rfl dX12_goes_202 ?_
                    refine lv_iconst (v := nI 2) zx zb dX12_goes_205 (by decide) ?_
                    refine lv_dup2_11 zx zb dX12_goes_206 rfl rfl ?_
                    refine g_ialdN (i := 2) XX hP 1 0 rfl rfl (by omega) (by decide) dX12_goes_207 ?_
                    refine g_top (y := Y_200.2.1) (Rel.be hr1) ?_
                    refine lv_iload zx zb dX12_goes_208 (lv_at hl 0 rfl) ?_
                    refine lv_if_ne (tgt := 222) zx zb dX12_goes_210 (by decide) (fun c_210 => ?_) (fun c_210 => ?_)
                    · exact absurd c_210 (by decide)
                    · clear c_210
                      refine lv_aload_n zx zb dX12_goes_213 rfl (lv_at hl 1 rfl) ?_
                      refine lv_iload zx zb dX12_goes_214 (lv_at hl 3 rfl) ?_
                      refine call_Vi (As := [.int (nI x1)]) (rest := [.int Y_200.2.1, .int (nI 2), .ref (m 1)]) XX cv_X12_206 (c_X12_isLost Γ l m M b_200 C tr Y_200 pc P x1 (hr1) (by omega)) hP hD hS hA [0, 1] (by decide) rfl (fun _ => rfl) 0 0 rfl rfl rfl rfl hl.1 rfl ⟨⟨by decide, by decide⟩, by decide, by decide⟩ (Nat.le_of_ble_eq_true rfl) dX12_goes_216 (fun r_216 u H locs hw hP hD hS => ?_)
                      have hw := hw.symm
                      subst hw
                      have hP : bP Γ [bMo Γ m M, bA Γ (m 1) 259 b_200] H := hP
                      have hD : bD AA [bMo Γ m M, bA Γ (m 1) 259 b_200] := hD
                      refine lv_if_eq (tgt := 226) zx zb dX12_goes_219 (by decide) (fun c_219 => ?_) (fun c_219 => ?_)
                      · have c_219 : (yrLost Y_200 x1) = false := bI_0.mp c_219
                        refine lv_aload_n zx zb dX12_goes_226 rfl (lv_at hl 1 rfl) ?_
                        refine g_get (v := .ref (m 1)) XX hP 0 0 rfl rfl rfl iwX12 0 (by decide) fl_X12_7 rfl dX12_goes_227 ?_
                        refine lv_iload zx zb dX12_goes_230 (lv_at hl 3 rfl) ?_
                        refine lv_iconst (v := nI 1) zx zb dX12_goes_232 (by decide) ?_
                        refine callR_Si (As := [.int (nI x1), .int (nI 1)]) (rest := [.ref (m 1), .int Y_200.2.1, .int (nI 2), .ref (m 1)]) XX cs_X12_73 (c_X12_at Γ l x1 1 ) hP hD hS hA nil_mem nil_D rfl hl.1 rfl ⟨⟨by decide, by decide⟩, by decide, by decide⟩ (Nat.le_of_ble_eq_true rfl) dX12_goes_233 (fun r_233 H locs hw hP hS => ?_)
                        have hw := hw.symm
                        subst hw
                        refine g_ialdN (i := 15 + 5 * x1 + 1) XX hP 1 0 rfl rfl (by omega) (by decide) dX12_goes_236 ?_
                        refine g_top (y := C.2.2.2.1 x1) (Rel.c1 hr1 (by omega)) ?_
                        refine lv_bipush (v := nI 10) zx zb dX12_goes_237 (by decide) ?_
                        refine lv_idiv zx zb dX12_goes_239 (by decide) ?_
                        refine g_top (y := (C.2.2.2.1 x1) / 10) rfl ?_
                        refine lv_iadd zx zb dX12_goes_240 ?_
                        refine g_iastN (x := Y_200.2.1 + ((C.2.2.2.1 x1) / 10)) (i := 2) (blk' := bA Γ (m 1) 259 (upd b_200 2 (Y_200.2.1 + ((C.2.2.2.1 x1) / 10)))) (bs' := [bMo Γ m M, bA Γ (m 1) 259 (upd b_200 2 (Y_200.2.1 + ((C.2.2.2.1 x1) / 10)))]) XX hP hD hS 1 0 rfl rfl (by omega) (by decide) rfl rfl dX12_goes_241 (fun H locs hP hD hS => ?_)
                        have hr1 := Rel_bells (v := Y_200.2.1 + ((C.2.2.2.1 x1) / 10)) hr1 htc hdc
                        generalize upd b_200 2 (Y_200.2.1 + ((C.2.2.2.1 x1) / 10)) = b_241 at hP hD hr1
                        obtain ⟨Y_241, eY_241⟩ : ∃ Zq_ : YrV, Zq_ = (Y_200.1, Y_200.2.1 + ((C.2.2.2.1 x1) / 10), Y_200.2.2) := ⟨_, rfl⟩
                        rw [← eY_241] at hr1
                        refine lv_iinc (v := nI (x1 + 1)) (lv' := [(4, .int (nI (x1 + 1))), (5, .int (nI 0)), (0, .ref (m 0)), (3, .int (coFl C tr Y q))]) zx zb dX12_goes_242 hl (k := 3) rfl (nI_inc _ 1) (by decide) rfl (fun ls hl => ?_)
                        refine lv_goto (tgt := 111) zx zb dX12_goes_245 (by decide) ?_
                        exact ih111 (x1 + 1) b_241 Y_241 (by omega) (hr1) (by first | exact run_wet hZ2 c_129 eY_162 (Or.inl ⟨Int32.not_le.mp c_191, eY_200⟩) eY_241 | exact run_wet hZ2 c_129 eY_162 (Or.inr ⟨Int32.not_lt.mpr c_191, eY_200⟩) eY_241 | exact run_dry hZ2 c_129 eY_162 eY_200 (Or.inl ⟨c_219, eY_241⟩) | exact run_dry hZ2 c_129 eY_162 eY_200 (Or.inr ⟨c_219, eY_241⟩)) (by omega) _ _ hP hD hS _ (lv_sub hl [2, 3, 0] rfl)
                      · have c_219 : (yrLost Y_200 x1) = true := bI_ne c_219
                        refine lv_iconst (v := nI 0) zx zb dX12_goes_222 (by decide) ?_
                        refine lv_goto (tgt := 240) zx zb dX12_goes_223 (by decide) ?_
                        refine lv_iadd zx zb dX12_goes_240 ?_
                        refine g_top (y := Y_200.2.1 + 0) rfl ?_
                        refine g_iastN (x := Y_200.2.1 + 0) (i := 2) (blk' := bA Γ (m 1) 259 (upd b_200 2 (Y_200.2.1 + 0))) (bs' := [bMo Γ m M, bA Γ (m 1) 259 (upd b_200 2 (Y_200.2.1 + 0))]) XX hP hD hS 1 0 rfl rfl (by omega) (by decide) rfl rfl dX12_goes_241 (fun H locs hP hD hS => ?_)
                        have hr1 := Rel_bells (v := Y_200.2.1 + 0) hr1 htc hdc
                        generalize upd b_200 2 (Y_200.2.1 + 0) = b_241 at hP hD hr1
                        obtain ⟨Y_241, eY_241⟩ : ∃ Zq_ : YrV, Zq_ = (Y_200.1, Y_200.2.1 + 0, Y_200.2.2) := ⟨_, rfl⟩
                        rw [← eY_241] at hr1
                        refine lv_iinc (v := nI (x1 + 1)) (lv' := [(4, .int (nI (x1 + 1))), (5, .int (nI 0)), (0, .ref (m 0)), (3, .int (coFl C tr Y q))]) zx zb dX12_goes_242 hl (k := 3) rfl (nI_inc _ 1) (by decide) rfl (fun ls hl => ?_)
                        refine lv_goto (tgt := 111) zx zb dX12_goes_245 (by decide) ?_
                        exact ih111 (x1 + 1) b_241 Y_241 (by omega) (hr1) (by first | exact run_wet hZ2 c_129 eY_162 (Or.inl ⟨Int32.not_le.mp c_191, eY_200⟩) eY_241 | exact run_wet hZ2 c_129 eY_162 (Or.inr ⟨Int32.not_lt.mpr c_191, eY_200⟩) eY_241 | exact run_dry hZ2 c_129 eY_162 eY_200 (Or.inl ⟨c_219, eY_241⟩) | exact run_dry hZ2 c_129 eY_162 eY_200 (Or.inr ⟨c_219, eY_241⟩)) (by omega) _ _ hP hD hS _ (lv_sub hl [2, 3, 0] rfl)
                  · exact absurd c_177 (by decide)
                · exact absurd c_153 (by decide)
              · have c_129 : hasB (coFl C tr Y q) x1 = true := (shrB (by omega)).mp c_129
                refine lv_iconst (v := nI 1) zx zb dX12_goes_132 (by decide) ?_
                refine lv_goto (tgt := 137) zx zb dX12_goes_133 (by decide) ?_
                refine lv_istore (lv' := [(5, .int (nI 1)), (0, .ref (m 0)), (3, .int (coFl C tr Y q)), (4, .int (nI x1))]) zx zb dX12_goes_137 hl (by decide) rfl (fun ls hl => ?_)
                refine lv_aload_n zx zb dX12_goes_139 rfl (lv_at hl 1 rfl) ?_
                refine g_get (v := .ref (m 1)) XX hP 0 0 rfl rfl rfl iwX12 0 (by decide) fl_X12_7 rfl dX12_goes_140 ?_
                refine lv_iload zx zb dX12_goes_143 (lv_at hl 3 rfl) ?_
                refine lv_iconst (v := nI 4) zx zb dX12_goes_145 (by decide) ?_
                refine callR_Si (As := [.int (nI x1), .int (nI 4)]) (rest := [.ref (m 1)]) XX cs_X12_73 (c_X12_at Γ l x1 4 ) hP hD hS hA nil_mem nil_D rfl hl.1 rfl ⟨⟨by decide, by decide⟩, by decide, by decide⟩ (Nat.le_of_ble_eq_true rfl) dX12_goes_146 (fun r_146 H locs hw hP hS => ?_)
                have hw := hw.symm
                subst hw
                refine lv_dup2_11 zx zb dX12_goes_149 rfl rfl ?_
                refine g_ialdN (i := 15 + 5 * x1 + 4) XX hP 1 0 rfl rfl (by omega) (by decide) dX12_goes_150 ?_
                refine g_top (y := Z2.2.2.2.2 x1) (Rel.c4 hr1 (by omega)) ?_
                refine lv_iload zx zb dX12_goes_151 (lv_at hl 0 rfl) ?_
                refine lv_if_eq (tgt := 160) zx zb dX12_goes_153 (by decide) (fun c_153 => ?_) (fun c_153 => ?_)
                · exact absurd c_153 (by decide)
                · clear c_153
                  refine lv_iconst (v := nI 1) zx zb dX12_goes_156 (by decide) ?_
                  refine lv_goto (tgt := 161) zx zb dX12_goes_157 (by decide) ?_
                  refine lv_iadd zx zb dX12_goes_161 ?_
                  refine g_top (y := (Z2.2.2.2.2 x1) + 1) rfl ?_
                  refine g_iastN (x := (Z2.2.2.2.2 x1) + 1) (i := 15 + 5 * x1 + 4) (blk' := bA Γ (m 1) 259 (upd b2 (15 + 5 * x1 + 4) ((Z2.2.2.2.2 x1) + 1))) (bs' := [bMo Γ m M, bA Γ (m 1) 259 (upd b2 (15 + 5 * x1 + 4) ((Z2.2.2.2.2 x1) + 1))]) XX hP hD hS 1 0 rfl rfl (by omega) (by decide) rfl rfl dX12_goes_162 (fun H locs hP hD hS => ?_)
                  have hr1 := Rel_fl (v := (Z2.2.2.2.2 x1) + 1) hr1 htc hdc (show x1 < 8 by omega)
                  generalize upd b2 (15 + 5 * x1 + 4) ((Z2.2.2.2.2 x1) + 1) = b_162 at hP hD hr1
                  obtain ⟨Y_162, eY_162⟩ : ∃ Zq_ : YrV, Zq_ = (Z2.1, Z2.2.1, Z2.2.2.1, Z2.2.2.2.1, upd Z2.2.2.2.2 x1 ((Z2.2.2.2.2 x1) + 1)) := ⟨_, rfl⟩
                  rw [← eY_162] at hr1
                  refine lv_aload_n zx zb dX12_goes_163 rfl (lv_at hl 1 rfl) ?_
                  refine g_get (v := .ref (m 1)) XX hP 0 0 rfl rfl rfl iwX12 0 (by decide) fl_X12_7 rfl dX12_goes_164 ?_
                  refine lv_iload zx zb dX12_goes_167 (lv_at hl 3 rfl) ?_
                  refine lv_iconst (v := nI 3) zx zb dX12_goes_169 (by decide) ?_
                  refine callR_Si (As := [.int (nI x1), .int (nI 3)]) (rest := [.ref (m 1)]) XX cs_X12_73 (c_X12_at Γ l x1 3 ) hP hD hS hA nil_mem nil_D rfl hl.1 rfl ⟨⟨by decide, by decide⟩, by decide, by decide⟩ (Nat.le_of_ble_eq_true rfl) dX12_goes_170 (fun r_170 H locs hw hP hS => ?_)
                  have hw := hw.symm
                  subst hw
                  refine lv_dup2_11 zx zb dX12_goes_173 rfl rfl ?_
                  refine g_ialdN (i := 15 + 5 * x1 + 3) XX hP 1 0 rfl rfl (by omega) (by decide) dX12_goes_174 ?_
                  refine g_top (y := Y_162.2.2.2.1 x1) (Rel.c3 hr1 (by omega)) ?_
                  refine lv_iload zx zb dX12_goes_175 (lv_at hl 0 rfl) ?_
                  refine lv_if_eq (tgt := 198) zx zb dX12_goes_177 (by decide) (fun c_177 => ?_) (fun c_177 => ?_)
                  · exact absurd c_177 (by decide)
                  · clear c_177
                    refine lv_aload_n zx zb dX12_goes_180 rfl (lv_at hl 1 rfl) ?_
                    refine g_get (v := .ref (m 1)) XX hP 0 0 rfl rfl rfl iwX12 0 (by decide) fl_X12_7 rfl dX12_goes_181 ?_
                    refine lv_iload zx zb dX12_goes_184 (lv_at hl 3 rfl) ?_
                    refine lv_iconst (v := nI 3) zx zb dX12_goes_186 (by decide) ?_
                    refine callR_Si (As := [.int (nI x1), .int (nI 3)]) (rest := [.ref (m 1), .int (Y_162.2.2.2.1 x1), .int (nI (15 + 5 * x1 + 3)), .ref (m 1)]) XX cs_X12_73 (c_X12_at Γ l x1 3 ) hP hD hS hA nil_mem nil_D rfl hl.1 rfl ⟨⟨by decide, by decide⟩, by decide, by decide⟩ (Nat.le_of_ble_eq_true rfl) dX12_goes_187 (fun r_187 H locs hw hP hS => ?_)
                    have hw := hw.symm
                    subst hw
                    refine g_ialdN (i := 15 + 5 * x1 + 3) XX hP 1 0 rfl rfl (by omega) (by decide) dX12_goes_190 ?_
                    refine g_top (y := Y_162.2.2.2.1 x1) (Rel.c3 hr1 (by omega)) ?_
                    refine lv_if_le (tgt := 198) zx zb dX12_goes_191 (by decide) (fun c_191 => ?_) (fun c_191 => ?_)
                    · have c_191 : (Y_162.2.2.2.1 x1) ≤ (0 : Int32) := c_191
                      refine lv_iconst (v := nI 0) zx zb dX12_goes_198 (by decide) ?_
                      refine lv_isub zx zb dX12_goes_199 ?_
                      refine g_top (y := (Y_162.2.2.2.1 x1) - 0) rfl ?_
                      refine g_iastN (x := (Y_162.2.2.2.1 x1) - 0) (i := 15 + 5 * x1 + 3) (blk' := bA Γ (m 1) 259 (upd b_162 (15 + 5 * x1 + 3) ((Y_162.2.2.2.1 x1) - 0))) (bs' := [bMo Γ m M, bA Γ (m 1) 259 (upd b_162 (15 + 5 * x1 + 3) ((Y_162.2.2.2.1 x1) - 0))]) XX hP hD hS 1 0 rfl rfl (by omega) (by decide) rfl rfl dX12_goes_200 (fun H locs hP hD hS => ?_)
                      have hr1 := Rel_dike (v := (Y_162.2.2.2.1 x1) - 0) hr1 htc hdc (show x1 < 8 by omega)
                      generalize upd b_162 (15 + 5 * x1 + 3) ((Y_162.2.2.2.1 x1) - 0) = b_200 at hP hD hr1
                      obtain ⟨Y_200, eY_200⟩ : ∃ Zq_ : YrV, Zq_ = (Y_162.1, Y_162.2.1, Y_162.2.2.1, upd Y_162.2.2.2.1 x1 ((Y_162.2.2.2.1 x1) - 0), Y_162.2.2.2.2) := ⟨_, rfl⟩
                      rw [← eY_200] at hr1
                      refine lv_aload_n zx zb dX12_goes_201 rfl (lv_at hl 1 rfl) ?_
                      refine g_get (v := .ref (m 1)) XX hP 0 0 rfl rfl rfl iwX12 0 (by decide) fl_X12_7 rfl dX12_goes_202 ?_
                      refine lv_iconst (v := nI 2) zx zb dX12_goes_205 (by decide) ?_
                      refine lv_dup2_11 zx zb dX12_goes_206 rfl rfl ?_
                      refine g_ialdN (i := 2) XX hP 1 0 rfl rfl (by omega) (by decide) dX12_goes_207 ?_
                      refine g_top (y := Y_200.2.1) (Rel.be hr1) ?_
                      refine lv_iload zx zb dX12_goes_208 (lv_at hl 0 rfl) ?_
                      refine lv_if_ne (tgt := 222) zx zb dX12_goes_210 (by decide) (fun c_210 => ?_) (fun c_210 => ?_)
                      · clear c_210
                        refine lv_iconst (v := nI 0) zx zb dX12_goes_222 (by decide) ?_
                        refine lv_goto (tgt := 240) zx zb dX12_goes_223 (by decide) ?_
                        refine lv_iadd zx zb dX12_goes_240 ?_
                        refine g_top (y := Y_200.2.1 + 0) rfl ?_
                        refine g_iastN (x := Y_200.2.1 + 0) (i := 2) (blk' := bA Γ (m 1) 259 (upd b_200 2 (Y_200.2.1 + 0))) (bs' := [bMo Γ m M, bA Γ (m 1) 259 (upd b_200 2 (Y_200.2.1 + 0))]) XX hP hD hS 1 0 rfl rfl (by omega) (by decide) rfl rfl dX12_goes_241 (fun H locs hP hD hS => ?_)
                        have hr1 := Rel_bells (v := Y_200.2.1 + 0) hr1 htc hdc
                        generalize upd b_200 2 (Y_200.2.1 + 0) = b_241 at hP hD hr1
                        obtain ⟨Y_241, eY_241⟩ : ∃ Zq_ : YrV, Zq_ = (Y_200.1, Y_200.2.1 + 0, Y_200.2.2) := ⟨_, rfl⟩
                        rw [← eY_241] at hr1
                        refine lv_iinc (v := nI (x1 + 1)) (lv' := [(4, .int (nI (x1 + 1))), (5, .int (nI 1)), (0, .ref (m 0)), (3, .int (coFl C tr Y q))]) zx zb dX12_goes_242 hl (k := 3) rfl (nI_inc _ 1) (by decide) rfl (fun ls hl => ?_)
                        refine lv_goto (tgt := 111) zx zb dX12_goes_245 (by decide) ?_
                        exact ih111 (x1 + 1) b_241 Y_241 (by omega) (hr1) (by first | exact run_wet hZ2 c_129 eY_162 (Or.inl ⟨Int32.not_le.mp c_191, eY_200⟩) eY_241 | exact run_wet hZ2 c_129 eY_162 (Or.inr ⟨Int32.not_lt.mpr c_191, eY_200⟩) eY_241 | exact run_dry hZ2 c_129 eY_162 eY_200 (Or.inl ⟨c_219, eY_241⟩) | exact run_dry hZ2 c_129 eY_162 eY_200 (Or.inr ⟨c_219, eY_241⟩)) (by omega) _ _ hP hD hS _ (lv_sub hl [2, 3, 0] rfl)
                      · exact absurd c_210 (by decide)
                    · have c_191 : ¬ ((Y_162.2.2.2.1 x1) ≤ (0 : Int32)) := c_191
                      refine lv_iconst (v := nI 1) zx zb dX12_goes_194 (by decide) ?_
                      refine lv_goto (tgt := 199) zx zb dX12_goes_195 (by decide) ?_
                      refine lv_isub zx zb dX12_goes_199 ?_
                      refine g_top (y := (Y_162.2.2.2.1 x1) - 1) rfl ?_
                      refine g_iastN (x := (Y_162.2.2.2.1 x1) - 1) (i := 15 + 5 * x1 + 3) (blk' := bA Γ (m 1) 259 (upd b_162 (15 + 5 * x1 + 3) ((Y_162.2.2.2.1 x1) - 1))) (bs' := [bMo Γ m M, bA Γ (m 1) 259 (upd b_162 (15 + 5 * x1 + 3) ((Y_162.2.2.2.1 x1) - 1))]) XX hP hD hS 1 0 rfl rfl (by omega) (by decide) rfl rfl dX12_goes_200 (fun H locs hP hD hS => ?_)
                      have hr1 := Rel_dike (v := (Y_162.2.2.2.1 x1) - 1) hr1 htc hdc (show x1 < 8 by omega)
                      generalize upd b_162 (15 + 5 * x1 + 3) ((Y_162.2.2.2.1 x1) - 1) = b_200 at hP hD hr1
                      obtain ⟨Y_200, eY_200⟩ : ∃ Zq_ : YrV, Zq_ = (Y_162.1, Y_162.2.1, Y_162.2.2.1, upd Y_162.2.2.2.1 x1 ((Y_162.2.2.2.1 x1) - 1), Y_162.2.2.2.2) := ⟨_, rfl⟩
                      rw [← eY_200] at hr1
                      refine lv_aload_n zx zb dX12_goes_201 rfl (lv_at hl 1 rfl) ?_
                      refine g_get (v := .ref (m 1)) XX hP 0 0 rfl rfl rfl iwX12 0 (by decide) fl_X12_7 rfl dX12_goes_202 ?_
                      refine lv_iconst (v := nI 2) zx zb dX12_goes_205 (by decide) ?_
                      refine lv_dup2_11 zx zb dX12_goes_206 rfl rfl ?_
                      refine g_ialdN (i := 2) XX hP 1 0 rfl rfl (by omega) (by decide) dX12_goes_207 ?_
                      refine g_top (y := Y_200.2.1) (Rel.be hr1) ?_
                      refine lv_iload zx zb dX12_goes_208 (lv_at hl 0 rfl) ?_
                      refine lv_if_ne (tgt := 222) zx zb dX12_goes_210 (by decide) (fun c_210 => ?_) (fun c_210 => ?_)
                      · clear c_210
                        refine lv_iconst (v := nI 0) zx zb dX12_goes_222 (by decide) ?_
                        refine lv_goto (tgt := 240) zx zb dX12_goes_223 (by decide) ?_
                        refine lv_iadd zx zb dX12_goes_240 ?_
                        refine g_top (y := Y_200.2.1 + 0) rfl ?_
                        refine g_iastN (x := Y_200.2.1 + 0) (i := 2) (blk' := bA Γ (m 1) 259 (upd b_200 2 (Y_200.2.1 + 0))) (bs' := [bMo Γ m M, bA Γ (m 1) 259 (upd b_200 2 (Y_200.2.1 + 0))]) XX hP hD hS 1 0 rfl rfl (by omega) (by decide) rfl rfl dX12_goes_241 (fun H locs hP hD hS => ?_)
                        have hr1 := Rel_bells (v := Y_200.2.1 + 0) hr1 htc hdc
                        generalize upd b_200 2 (Y_200.2.1 + 0) = b_241 at hP hD hr1
                        obtain ⟨Y_241, eY_241⟩ : ∃ Zq_ : YrV, Zq_ = (Y_200.1, Y_200.2.1 + 0, Y_200.2.2) := ⟨_, rfl⟩
                        rw [← eY_241] at hr1
                        refine lv_iinc (v := nI (x1 + 1)) (lv' := [(4, .int (nI (x1 + 1))), (5, .int (nI 1)), (0, .ref (m 0)), (3, .int (coFl C tr Y q))]) zx zb dX12_goes_242 hl (k := 3) rfl (nI_inc _ 1) (by decide) rfl (fun ls hl => ?_)
                        refine lv_goto (tgt := 111) zx zb dX12_goes_245 (by decide) ?_
                        exact ih111 (x1 + 1) b_241 Y_241 (by omega) (hr1) (by first | exact run_wet hZ2 c_129 eY_162 (Or.inl ⟨Int32.not_le.mp c_191, eY_200⟩) eY_241 | exact run_wet hZ2 c_129 eY_162 (Or.inr ⟨Int32.not_lt.mpr c_191, eY_200⟩) eY_241 | exact run_dry hZ2 c_129 eY_162 eY_200 (Or.inl ⟨c_219, eY_241⟩) | exact run_dry hZ2 c_129 eY_162 eY_200 (Or.inr ⟨c_219, eY_241⟩)) (by omega) _ _ hP hD hS _ (lv_sub hl [2, 3, 0] rfl)
                      · exact absurd c_210 (by decide)
        exact L111 _ 0 b1 Z (by omega) (hr1) (by rw [hZ]; exact runB_0) (Nat.lt_succ_self _) _ _ hP hD hS _ (lv_sub hl [2, 1, 0] rfl)
      · have c_16 : ¬ (C.2.2.2.2.2.2.1 ≤ t) := fun h => c_16 ((nI_leI (a := C.2.2.2.2.2.2.1) (b := t) (by omega) (by omega)).mpr h)
        refine lv_aload_n zx zb dX12_goes_19 rfl (lv_at hl 0 rfl) ?_
        refine lv_iload_n zx zb dX12_goes_20 rfl (lv_at hl 3 rfl) ?_
        refine lv_iload_n zx zb dX12_goes_21 rfl (lv_at hl 2 rfl) ?_
        refine call_Vi (As := [.int (nI t), .int Y.1]) (rest := []) XX cv_X12_190 (c_X12_isOf Γ l m M b1 C tr Z pc P t Y.1 (hr1) (hIZ) (by omega)) hP hD hS hA [0, 1] (by decide) rfl (fun _ => rfl) 0 0 rfl rfl rfl rfl hl.1 rfl ⟨⟨by decide, by decide⟩, by decide, by decide⟩ (Nat.le_of_ble_eq_true rfl) dX12_goes_22 (fun r_22 u H locs hw hP hD hS => ?_)
        have hw := hw.symm
        subst hw
        have hP : bP Γ [bMo Γ m M, bA Γ (m 1) 259 b1] H := hP
        have hD : bD AA [bMo Γ m M, bA Γ (m 1) 259 b1] := hD
        refine lv_if_eq (tgt := 89) zx zb dX12_goes_25 (by decide) (fun c_25 => ?_) (fun c_25 => ?_)
        · have c_25 : (!yrBr Z t && trRuns (tr t) Y.1) = false := bI_0.mp c_25
          refine lv_iinc (v := nI (t + 1)) (lv' := [(3, .int (nI (t + 1))), (0, .ref (m 0)), (1, .int q), (2, .int Y.1)]) zx zb dX12_goes_89 hl (k := 3) rfl (nI_inc _ 1) (by decide) rfl (fun ls hl => ?_)
          refine lv_goto (tgt := 9) zx zb dX12_goes_92 (by decide) ?_
          exact ih9 (t + 1) b1 Z (by omega) (hr1) (by first | exact pay_no hZ hZy c_25 | exact pay_ok hZ hZy c_25 c_54 eY_88 | exact pay_br hZ hZy c_25 c_54 eY_62 eY_88 | exact absurd c_78 c_54 | exact goes_dead c_54 c_78 eY_62) (by first | exact hZy | (rw [eY_88]; exact hZy) | (rw [eY_88, eY_62]; exact hZy)) (by omega) _ _ hP hD hS _ (lv_sub hl [1, 2, 3, 0] rfl)
        · have c_25 : (!yrBr Z t && trRuns (tr t) Y.1) = true := bI_ne c_25
          refine lv_aload_n zx zb dX12_goes_28 rfl (lv_at hl 0 rfl) ?_
          refine lv_iload_n zx zb dX12_goes_29 rfl (lv_at hl 3 rfl) ?_
          refine lv_iload_n zx zb dX12_goes_30 rfl (lv_at hl 2 rfl) ?_
          refine call_Vi (As := [.int (nI t), .int Y.1]) (rest := []) XX cv_X12_196 (c_X12_dueOf Γ l m M b1 C tr Z pc P t Y.1 (hr1) (hIZ) (by omega) (inv_y hI)) hP hD hS hA [0, 1] (by decide) rfl (fun _ => rfl) 0 0 rfl rfl rfl rfl hl.1 rfl ⟨⟨by decide, by decide⟩, by decide, by decide⟩ (Nat.le_of_ble_eq_true rfl) dX12_goes_31 (fun r_31 u H locs hw hP hD hS => ?_)
          have hw := hw.symm
          subst hw
          have hP : bP Γ [bMo Γ m M, bA Γ (m 1) 259 b1] H := hP
          have hD : bD AA [bMo Γ m M, bA Γ (m 1) 259 b1] := hD
          refine lv_istore (lv' := [(4, .int (kDue (tr t).1 (tCosts (tr t)) Y.1)), (0, .ref (m 0)), (1, .int q), (2, .int Y.1), (3, .int (nI t))]) zx zb dX12_goes_34 hl (by decide) rfl (fun ls hl => ?_)
          refine lv_aload_n zx zb dX12_goes_36 rfl (lv_at hl 1 rfl) ?_
          refine g_get (v := .ref (m 1)) XX hP 0 0 rfl rfl rfl iwX12 0 (by decide) fl_X12_7 rfl dX12_goes_37 ?_
          refine lv_iload_n zx zb dX12_goes_40 rfl (lv_at hl 4 rfl) ?_
          refine lv_bipush (v := nI 6) zx zb dX12_goes_41 (by decide) ?_
          refine callR_Si (As := [.int (nI t), .int (nI 6)]) (rest := [.ref (m 1)]) XX cs_X12_96 (c_X12_of0 Γ l t 6 ) hP hD hS hA nil_mem nil_D rfl hl.1 rfl ⟨⟨by decide, by decide⟩, by decide, by decide⟩ (Nat.le_of_ble_eq_true rfl) dX12_goes_43 (fun r_43 H locs hw hP hS => ?_)
          have hw := hw.symm
          subst hw
          refine lv_iload zx zb dX12_goes_46 (lv_at hl 0 rfl) ?_
          refine lv_aload_n zx zb dX12_goes_48 rfl (lv_at hl 1 rfl) ?_
          refine g_get (v := .ref (m 1)) XX hP 0 0 rfl rfl rfl iwX12 0 (by decide) fl_X12_7 rfl dX12_goes_49 ?_
          refine lv_iconst (v := nI 2) zx zb dX12_goes_52 (by decide) ?_
          refine g_ialdN (i := 2) XX hP 1 0 rfl rfl (by omega) (by decide) dX12_goes_53 ?_
          refine g_top (y := Z.2.1) (Rel.be hr1) ?_
          refine lv_icmp_gt (tgt := 61) zx zb dX12_goes_54 (by decide) (fun c_54 => ?_) (fun c_54 => ?_)
          · have c_54 : Z.2.1 < (kDue (tr t).1 (tCosts (tr t)) Y.1) := c_54
            refine lv_iconst (v := nI 1) zx zb dX12_goes_61 (by decide) ?_
            refine g_iastN (x := nI 1) (i := 55 + 7 * t + 6) (blk' := bA Γ (m 1) 259 (upd b1 (55 + 7 * t + 6) (nI 1))) (bs' := [bMo Γ m M, bA Γ (m 1) 259 (upd b1 (55 + 7 * t + 6) (nI 1))]) XX hP hD hS 1 0 rfl rfl (by omega) (by decide) rfl rfl dX12_goes_62 (fun H locs hP hD hS => ?_)
            have hr1 := Rel_brk hr1 htc hdc (show t < C.2.2.2.2.2.2.1 by omega)
            generalize upd b1 (55 + 7 * t + 6) (nI 1) = b_62 at hP hD hr1
            obtain ⟨Y_62, eY_62⟩ : ∃ Zq_ : YrV, Zq_ = (Z.1, Z.2.1, Z.2.2.1 ||| bit t, Z.2.2.2) := ⟨_, rfl⟩
            rw [← eY_62] at hr1
            refine lv_aload_n zx zb dX12_goes_63 rfl (lv_at hl 1 rfl) ?_
            refine g_get (v := .ref (m 1)) XX hP 0 0 rfl rfl rfl iwX12 0 (by decide) fl_X12_7 rfl dX12_goes_64 ?_
            refine lv_iconst (v := nI 2) zx zb dX12_goes_67 (by decide) ?_
            refine lv_dup2_11 zx zb dX12_goes_68 rfl rfl ?_
            refine g_ialdN (i := 2) XX hP 1 0 rfl rfl (by omega) (by decide) dX12_goes_69 ?_
            refine g_top (y := Y_62.2.1) (Rel.be hr1) ?_
            refine lv_iload zx zb dX12_goes_70 (lv_at hl 0 rfl) ?_
            refine lv_aload_n zx zb dX12_goes_72 rfl (lv_at hl 1 rfl) ?_
            refine g_get (v := .ref (m 1)) XX hP 0 0 rfl rfl rfl iwX12 0 (by decide) fl_X12_7 rfl dX12_goes_73 ?_
            refine lv_iconst (v := nI 2) zx zb dX12_goes_76 (by decide) ?_
            refine g_ialdN (i := 2) XX hP 1 0 rfl rfl (by omega) (by decide) dX12_goes_77 ?_
            refine g_top (y := Y_62.2.1) (Rel.be hr1) ?_
            refine lv_icmp_gt (tgt := 86) zx zb dX12_goes_78 (by decide) (fun c_78 => ?_) (fun c_78 => ?_)
            · have c_78 : Y_62.2.1 < (kDue (tr t).1 (tCosts (tr t)) Y.1) := c_78
              refine lv_iconst (v := nI 0) zx zb dX12_goes_86 (by decide) ?_
              refine lv_isub zx zb dX12_goes_87 ?_
              refine g_top (y := Y_62.2.1 - 0) rfl ?_
              refine g_iastN (x := Y_62.2.1 - 0) (i := 2) (blk' := bA Γ (m 1) 259 (upd b_62 2 (Y_62.2.1 - 0))) (bs' := [bMo Γ m M, bA Γ (m 1) 259 (upd b_62 2 (Y_62.2.1 - 0))]) XX hP hD hS 1 0 rfl rfl (by omega) (by decide) rfl rfl dX12_goes_88 (fun H locs hP hD hS => ?_)
              have hr1 := Rel_bells (v := Y_62.2.1 - 0) hr1 htc hdc
              generalize upd b_62 2 (Y_62.2.1 - 0) = b_88 at hP hD hr1
              obtain ⟨Y_88, eY_88⟩ : ∃ Zq_ : YrV, Zq_ = (Y_62.1, Y_62.2.1 - 0, Y_62.2.2) := ⟨_, rfl⟩
              rw [← eY_88] at hr1
              refine lv_iinc (v := nI (t + 1)) (lv' := [(3, .int (nI (t + 1))), (4, .int (kDue (tr t).1 (tCosts (tr t)) Y.1)), (0, .ref (m 0)), (1, .int q), (2, .int Y.1)]) zx zb dX12_goes_89 hl (k := 4) rfl (nI_inc _ 1) (by decide) rfl (fun ls hl => ?_)
              refine lv_goto (tgt := 9) zx zb dX12_goes_92 (by decide) ?_
              exact ih9 (t + 1) b_88 Y_88 (by omega) (hr1) (by first | exact pay_no hZ hZy c_25 | exact pay_ok hZ hZy c_25 c_54 eY_88 | exact pay_br hZ hZy c_25 c_54 eY_62 eY_88 | exact absurd c_78 c_54 | exact goes_dead c_54 c_78 eY_62) (by first | exact hZy | (rw [eY_88]; exact hZy) | (rw [eY_88, eY_62]; exact hZy)) (by omega) _ _ hP hD hS _ (lv_sub hl [2, 3, 4, 0] rfl)
            · have c_78 : ¬ (Y_62.2.1 < (kDue (tr t).1 (tCosts (tr t)) Y.1)) := c_78
              refine lv_iload zx zb dX12_goes_81 (lv_at hl 0 rfl) ?_
              refine lv_goto (tgt := 87) zx zb dX12_goes_83 (by decide) ?_
              refine lv_isub zx zb dX12_goes_87 ?_
              refine g_iastN (x := Y_62.2.1 - (kDue (tr t).1 (tCosts (tr t)) Y.1)) (i := 2) (blk' := bA Γ (m 1) 259 (upd b_62 2 (Y_62.2.1 - (kDue (tr t).1 (tCosts (tr t)) Y.1)))) (bs' := [bMo Γ m M, bA Γ (m 1) 259 (upd b_62 2 (Y_62.2.1 - (kDue (tr t).1 (tCosts (tr t)) Y.1)))]) XX hP hD hS 1 0 rfl rfl (by omega) (by decide) rfl rfl dX12_goes_88 (fun H locs hP hD hS => ?_)
              have hr1 := Rel_bells (v := Y_62.2.1 - (kDue (tr t).1 (tCosts (tr t)) Y.1)) hr1 htc hdc
              generalize upd b_62 2 (Y_62.2.1 - (kDue (tr t).1 (tCosts (tr t)) Y.1)) = b_88 at hP hD hr1
              obtain ⟨Y_88, eY_88⟩ : ∃ Zq_ : YrV, Zq_ = (Y_62.1, Y_62.2.1 - (kDue (tr t).1 (tCosts (tr t)) Y.1), Y_62.2.2) := ⟨_, rfl⟩
              rw [← eY_88] at hr1
              refine lv_iinc (v := nI (t + 1)) (lv' := [(3, .int (nI (t + 1))), (4, .int (kDue (tr t).1 (tCosts (tr t)) Y.1)), (0, .ref (m 0)), (1, .int q), (2, .int Y.1)]) zx zb dX12_goes_89 hl (k := 4) rfl (nI_inc _ 1) (by decide) rfl (fun ls hl => ?_)
              refine lv_goto (tgt := 9) zx zb dX12_goes_92 (by decide) ?_
              exact ih9 (t + 1) b_88 Y_88 (by omega) (hr1) (by first | exact pay_no hZ hZy c_25 | exact pay_ok hZ hZy c_25 c_54 eY_88 | exact pay_br hZ hZy c_25 c_54 eY_62 eY_88 | exact absurd c_78 c_54 | exact goes_dead c_54 c_78 eY_62) (by first | exact hZy | (rw [eY_88]; exact hZy) | (rw [eY_88, eY_62]; exact hZy)) (by omega) _ _ hP hD hS _ (lv_sub hl [2, 3, 4, 0] rfl)
          · have c_54 : ¬ (Z.2.1 < (kDue (tr t).1 (tCosts (tr t)) Y.1)) := c_54
            refine lv_iconst (v := nI 0) zx zb dX12_goes_57 (by decide) ?_
            refine lv_goto (tgt := 62) zx zb dX12_goes_58 (by decide) ?_
            refine g_iastN (x := nI 0) (i := 55 + 7 * t + 6) (blk' := bA Γ (m 1) 259 (upd b1 (55 + 7 * t + 6) (nI 0))) (bs' := [bMo Γ m M, bA Γ (m 1) 259 (upd b1 (55 + 7 * t + 6) (nI 0))]) XX hP hD hS 1 0 rfl rfl (by omega) (by decide) rfl rfl dX12_goes_62 (fun H locs hP hD hS => ?_)
            have hr1 := Rel_pay hr1 htc hdc (show t < C.2.2.2.2.2.2.1 by omega) (isof_b c_25)
            generalize upd b1 (55 + 7 * t + 6) (nI 0) = b_62 at hP hD hr1
            refine lv_aload_n zx zb dX12_goes_63 rfl (lv_at hl 1 rfl) ?_
            refine g_get (v := .ref (m 1)) XX hP 0 0 rfl rfl rfl iwX12 0 (by decide) fl_X12_7 rfl dX12_goes_64 ?_
            refine lv_iconst (v := nI 2) zx zb dX12_goes_67 (by decide) ?_
            refine lv_dup2_11 zx zb dX12_goes_68 rfl rfl ?_
            refine g_ialdN (i := 2) XX hP 1 0 rfl rfl (by omega) (by decide) dX12_goes_69 ?_
            refine g_top (y := Z.2.1) (Rel.be hr1) ?_
            refine lv_iload zx zb dX12_goes_70 (lv_at hl 0 rfl) ?_
            refine lv_aload_n zx zb dX12_goes_72 rfl (lv_at hl 1 rfl) ?_
            refine g_get (v := .ref (m 1)) XX hP 0 0 rfl rfl rfl iwX12 0 (by decide) fl_X12_7 rfl dX12_goes_73 ?_
            refine lv_iconst (v := nI 2) zx zb dX12_goes_76 (by decide) ?_
            refine g_ialdN (i := 2) XX hP 1 0 rfl rfl (by omega) (by decide) dX12_goes_77 ?_
            refine g_top (y := Z.2.1) (Rel.be hr1) ?_
            refine lv_icmp_gt (tgt := 86) zx zb dX12_goes_78 (by decide) (fun c_78 => ?_) (fun c_78 => ?_)
            · have c_78 : Z.2.1 < (kDue (tr t).1 (tCosts (tr t)) Y.1) := c_78
              refine lv_iconst (v := nI 0) zx zb dX12_goes_86 (by decide) ?_
              refine lv_isub zx zb dX12_goes_87 ?_
              refine g_top (y := Z.2.1 - 0) rfl ?_
              refine g_iastN (x := Z.2.1 - 0) (i := 2) (blk' := bA Γ (m 1) 259 (upd b_62 2 (Z.2.1 - 0))) (bs' := [bMo Γ m M, bA Γ (m 1) 259 (upd b_62 2 (Z.2.1 - 0))]) XX hP hD hS 1 0 rfl rfl (by omega) (by decide) rfl rfl dX12_goes_88 (fun H locs hP hD hS => ?_)
              have hr1 := Rel_bells (v := Z.2.1 - 0) hr1 htc hdc
              generalize upd b_62 2 (Z.2.1 - 0) = b_88 at hP hD hr1
              obtain ⟨Y_88, eY_88⟩ : ∃ Zq_ : YrV, Zq_ = (Z.1, Z.2.1 - 0, Z.2.2) := ⟨_, rfl⟩
              rw [← eY_88] at hr1
              refine lv_iinc (v := nI (t + 1)) (lv' := [(3, .int (nI (t + 1))), (4, .int (kDue (tr t).1 (tCosts (tr t)) Y.1)), (0, .ref (m 0)), (1, .int q), (2, .int Y.1)]) zx zb dX12_goes_89 hl (k := 4) rfl (nI_inc _ 1) (by decide) rfl (fun ls hl => ?_)
              refine lv_goto (tgt := 9) zx zb dX12_goes_92 (by decide) ?_
              exact ih9 (t + 1) b_88 Y_88 (by omega) (hr1) (by first | exact pay_no hZ hZy c_25 | exact pay_ok hZ hZy c_25 c_54 eY_88 | exact pay_br hZ hZy c_25 c_54 eY_62 eY_88 | exact absurd c_78 c_54 | exact goes_dead c_54 c_78 eY_62) (by first | exact hZy | (rw [eY_88]; exact hZy) | (rw [eY_88, eY_62]; exact hZy)) (by omega) _ _ hP hD hS _ (lv_sub hl [2, 3, 4, 0] rfl)
            · have c_78 : ¬ (Z.2.1 < (kDue (tr t).1 (tCosts (tr t)) Y.1)) := c_78
              refine lv_iload zx zb dX12_goes_81 (lv_at hl 0 rfl) ?_
              refine lv_goto (tgt := 87) zx zb dX12_goes_83 (by decide) ?_
              refine lv_isub zx zb dX12_goes_87 ?_
              refine g_iastN (x := Z.2.1 - (kDue (tr t).1 (tCosts (tr t)) Y.1)) (i := 2) (blk' := bA Γ (m 1) 259 (upd b_62 2 (Z.2.1 - (kDue (tr t).1 (tCosts (tr t)) Y.1)))) (bs' := [bMo Γ m M, bA Γ (m 1) 259 (upd b_62 2 (Z.2.1 - (kDue (tr t).1 (tCosts (tr t)) Y.1)))]) XX hP hD hS 1 0 rfl rfl (by omega) (by decide) rfl rfl dX12_goes_88 (fun H locs hP hD hS => ?_)
              have hr1 := Rel_bells (v := Z.2.1 - (kDue (tr t).1 (tCosts (tr t)) Y.1)) hr1 htc hdc
              generalize upd b_62 2 (Z.2.1 - (kDue (tr t).1 (tCosts (tr t)) Y.1)) = b_88 at hP hD hr1
              obtain ⟨Y_88, eY_88⟩ : ∃ Zq_ : YrV, Zq_ = (Z.1, Z.2.1 - (kDue (tr t).1 (tCosts (tr t)) Y.1), Z.2.2) := ⟨_, rfl⟩
              rw [← eY_88] at hr1
              refine lv_iinc (v := nI (t + 1)) (lv' := [(3, .int (nI (t + 1))), (4, .int (kDue (tr t).1 (tCosts (tr t)) Y.1)), (0, .ref (m 0)), (1, .int q), (2, .int Y.1)]) zx zb dX12_goes_89 hl (k := 4) rfl (nI_inc _ 1) (by decide) rfl (fun ls hl => ?_)
              refine lv_goto (tgt := 9) zx zb dX12_goes_92 (by decide) ?_
              exact ih9 (t + 1) b_88 Y_88 (by omega) (hr1) (by first | exact pay_no hZ hZy c_25 | exact pay_ok hZ hZy c_25 c_54 eY_88 | exact pay_br hZ hZy c_25 c_54 eY_62 eY_88 | exact absurd c_78 c_54 | exact goes_dead c_54 c_78 eY_62) (by first | exact hZy | (rw [eY_88]; exact hZy) | (rw [eY_88, eY_62]; exact hZy)) (by omega) _ _ hP hD hS _ (lv_sub hl [2, 3, 4, 0] rfl)
  exact L9 _ 0 b Y (by omega) (hr) (rfl) (rfl) (Nat.lt_succ_self _) _ _ hP hD hS _ (lv_sub hl [2, 3, 1, 0] rfl)
