
set_option maxHeartbeats 4000000 in
set_option maxRecDepth 100000 in
theorem c_X12_mend (Γ : GG) (l : Launch) (m : Nat → Nat) (M : MoV) (b : Nat → Int32) (C : CoV) (tr : Nat → TrV) (Y : YrV) (pc : Nat) (P : Nat → YrV) (tl : Nat → Int32) (ff : Nat → Int32) (hr : Rel b C tr Y pc P) (hI : Inv C tr Y) : Ci Γ l yX12_mend cX12_mend 6 (some (.int)) 2 43 0 0 [.ref (m 0)] [bMo Γ m M, bA Γ (m 1) 259 b, bA Γ (m 9) 6 tl] (fun (r : Int32) (u : Nat → Int32) => r = meS tr ff C.2.2.2.2.2.2.1) (fun (u : Nat → Int32) => [bMo Γ m M, bA Γ (m 1) 259 b, bA Γ (m 9) 6 u]) := by
  refine Ci.of (Or.inl rfl) (by decide) (Nat.le_of_ble_eq_true rfl) ?_
  intro pp ee ss mm bb me cd AA QQ XX hnm hA hP hD fin ls hl
  obtain ⟨zx, zb, hml, hown, hts, hK⟩ := id XX
  have hS : va_S AA ss.heap ss.heap [] := va_S.rf
  have hl : lv_has ls 6 [(0, .ref (m 0))] := hl
  have htc := inv_tc hI
  have hdc := inv_dc hI
  have hn := inv_n hI
  refine lv_iconst (v := nI 0) zx zb dX12_mend_0 (by decide) ?_
  refine lv_istore_n (lv' := [(1, .int (nI 0)), (0, .ref (m 0))]) zx zb dX12_mend_1 rfl hl (by decide) rfl (fun ls hl => ?_)
  refine lv_iconst (v := nI 0) zx zb dX12_mend_2 (by decide) ?_
  refine lv_istore_n (lv' := [(2, .int (nI 0)), (1, .int (nI 0)), (0, .ref (m 0))]) zx zb dX12_mend_3 rfl hl (by decide) rfl (fun ls hl => ?_)
  have L4 : ∀ (nn : Nat) (j : Nat) (a : Int32) (t1 : Nat → Int32), (j ≤ C.2.2.2.2.2.2.1) → (a = meS tr ff j) → (∀ k, k < j → t1 k = meF tr ff j k) → C.2.2.2.2.2.2.1 - j < nn → ∀ (H : Heap) (locs : List Loc), bP Γ [bMo Γ m M, bA Γ (m 1) 259 b, bA Γ (m 9) 6 t1] H → bD AA [bMo Γ m M, bA Γ (m 1) 259 b, bA Γ (m 9) 6 t1] → va_S AA ss.heap H locs → ∀ (ls : Array Slot), lv_has ls 6 [(0, .ref (m 0)), (1, .int a), (2, .int (nI j))] → W pp l ee { frames := 2, cells := 0, slots := 0, locals := 43 } ss mm [.ref (m 0)].toArray bb me cd H locs 0 0 QQ (F0 mm 4 ls []) := by
    intro nn
    induction nn with
    | zero => intro j a t1 hj ha ht hm; exact absurd hm (Nat.not_lt_zero _)
    | succ nn ih4 =>
      intro j a t1 hj ha ht hm4 H locs hP hD hS ls hl
      refine lv_iload_n zx zb dX12_mend_4 rfl (lv_at hl 2 rfl) ?_
      refine lv_aload_n zx zb dX12_mend_5 rfl (lv_at hl 0 rfl) ?_
      refine g_get (v := .ref (m 1)) XX hP 0 0 rfl rfl rfl iwX12 0 (by decide) fl_X12_7 rfl dX12_mend_6 ?_
      refine lv_iconst (v := nI 4) zx zb dX12_mend_9 (by decide) ?_
      refine g_ialdN (i := 4) XX hP 1 0 rfl rfl (by omega) (by decide) dX12_mend_10 ?_
      refine g_top (y := nI (C.2.2.2.2.2.2.1)) (Rel.tc hr) ?_
      refine lv_icmp_ge (tgt := 161) zx zb dX12_mend_11 (by decide) (fun c_11 => ?_) (fun c_11 => ?_)
      · have c_11 : C.2.2.2.2.2.2.1 ≤ j := (nI_leI (a := C.2.2.2.2.2.2.1) (b := j) (by omega) (by omega)).mp c_11
        refine lv_iload_n zx zb dX12_mend_161 rfl (lv_at hl 1 rfl) ?_
        exact fin _ _ a t1 162 _ dX12_mend_162 (fun h => by cases h) (by have e : j = C.2.2.2.2.2.2.1 := (by omega); subst e; exact ha) hP hD hS
      · have c_11 : ¬ (C.2.2.2.2.2.2.1 ≤ j) := fun h => c_11 ((nI_leI (a := C.2.2.2.2.2.2.1) (b := j) (by omega) (by omega)).mpr h)
        refine lv_aload_n zx zb dX12_mend_14 rfl (lv_at hl 0 rfl) ?_
        refine g_get (v := .ref (m 1)) XX hP 0 0 rfl rfl rfl iwX12 0 (by decide) fl_X12_7 rfl dX12_mend_15 ?_
        refine lv_iload_n zx zb dX12_mend_18 rfl (lv_at hl 2 rfl) ?_
        refine lv_iconst (v := nI 3) zx zb dX12_mend_19 (by decide) ?_
        refine callR_Si (As := [.int (nI j), .int (nI 3)]) (rest := [.ref (m 1)]) XX cs_X12_96 (c_X12_of0 Γ l j 3 ) hP hD hS hA nil_mem nil_D rfl hl.1 rfl ⟨⟨by decide, by decide⟩, by decide, by decide⟩ (Nat.le_of_ble_eq_true rfl) dX12_mend_20 (fun r_20 H locs hw hP hS => ?_)
        have hw := hw.symm
        subst hw
        refine g_ialdN (i := 55 + 7 * j + 3) XX hP 1 0 rfl rfl (by omega) (by decide) dX12_mend_23 ?_
        refine g_top (y := (tr j).2.2.2.2.1) (Rel.t3 hr (by omega)) ?_
        refine lv_istore_n (lv' := [(3, .int ((tr j).2.2.2.2.1)), (0, .ref (m 0)), (1, .int a), (2, .int (nI j))]) zx zb dX12_mend_24 rfl hl (by decide) rfl (fun ls hl => ?_)
        refine lv_aload_n zx zb dX12_mend_25 rfl (lv_at hl 1 rfl) ?_
        refine g_get (v := .ref (m 9)) XX hP 0 0 rfl rfl rfl iwX12 15 (by decide) fl_X12_35 rfl dX12_mend_26 ?_
        refine lv_iload_n zx zb dX12_mend_29 rfl (lv_at hl 3 rfl) ?_
        refine lv_aload_n zx zb dX12_mend_30 rfl (lv_at hl 1 rfl) ?_
        refine g_get (v := .ref (m 1)) XX hP 0 0 rfl rfl rfl iwX12 0 (by decide) fl_X12_7 rfl dX12_mend_31 ?_
        refine lv_iload_n zx zb dX12_mend_34 rfl (lv_at hl 3 rfl) ?_
        refine lv_iconst (v := nI 4) zx zb dX12_mend_35 (by decide) ?_
        refine callR_Si (As := [.int (nI j), .int (nI 4)]) (rest := [.ref (m 1), .int (nI j), .ref (m 9)]) XX cs_X12_96 (c_X12_of0 Γ l j 4 ) hP hD hS hA nil_mem nil_D rfl hl.1 rfl ⟨⟨by decide, by decide⟩, by decide, by decide⟩ (Nat.le_of_ble_eq_true rfl) dX12_mend_36 (fun r_36 H locs hw hP hS => ?_)
        have hw := hw.symm
        subst hw
        refine g_ialdN (i := 55 + 7 * j + 4) XX hP 1 0 rfl rfl (by omega) (by decide) dX12_mend_39 ?_
        refine g_top (y := (tr j).2.2.2.2.2.1) (Rel.t4 hr (by omega)) ?_
        refine g_iastN (x := (tr j).2.2.2.2.2.1) (i := j) (blk' := bA Γ (m 9) 6 (upd t1 j ((tr j).2.2.2.2.2.1))) (bs' := [bMo Γ m M, bA Γ (m 1) 259 b, bA Γ (m 9) 6 (upd t1 j ((tr j).2.2.2.2.2.1))]) XX hP hD hS 2 0 rfl rfl (by omega) (by decide) rfl rfl dX12_mend_40 (fun H locs hP hD hS => ?_)
        obtain ⟨u0, us, ⟨eu0, hu20⟩, hus, etb, key⟩ := me_key (ff := ff) hI (show j < C.2.2.2.2.2.2.1 by omega)
        refine lv_iconst (v := nI 1) zx zb dX12_mend_41 (by decide) ?_
        refine lv_istore (lv' := [(4, .int (nI 1)), (3, .int ((tr j).2.2.2.2.1)), (0, .ref (m 0)), (1, .int a), (2, .int (nI j))]) zx zb dX12_mend_42 hl (by decide) rfl (fun ls hl => ?_)
        have L44 : ∀ (nn : Nat) (v9 : Nat) (z9 : Bool) (s9 : Int32) (t2 : Nat → Int32), (us ≤ v9) → (v9 ≤ u0) → (t2 j = nI v9) → (∀ k, k < j → t2 k = meF tr ff j k) → (s9 = meS tr ff j + nI (u0 - v9)) → (z9 = false → v9 = us) → meM us v9 z9 < nn → ∀ (H : Heap) (locs : List Loc), bP Γ [bMo Γ m M, bA Γ (m 1) 259 b, bA Γ (m 9) 6 t2] H → bD AA [bMo Γ m M, bA Γ (m 1) 259 b, bA Γ (m 9) 6 t2] → va_S AA ss.heap H locs → ∀ (ls : Array Slot), lv_has ls 6 [(0, .ref (m 0)), (1, .int s9), (2, .int (nI j)), (3, .int ((tr j).2.2.2.2.1)), (4, .int (bI z9))] → W pp l ee { frames := 2, cells := 0, slots := 0, locals := 43 } ss mm [.ref (m 0)].toArray bb me cd H locs 0 0 QQ (F0 mm 44 ls []) := by
          intro nn
          induction nn with
          | zero => intro v9 z9 s9 t2 hu hu0 ht2 htk hs hz hm; exact absurd hm (Nat.not_lt_zero _)
          | succ nn ih44 =>
            intro v9 z9 s9 t2 hu hu0 ht2 htk hs hz hm44 H locs hP hD hS ls hl
            refine lv_iload zx zb dX12_mend_44 (lv_at hl 4 rfl) ?_
            refine lv_if_eq (tgt := 155) zx zb dX12_mend_46 (by decide) (fun c_46 => ?_) (fun c_46 => ?_)
            · have c_46 : z9 = false := bI_0.mp c_46
              refine lv_iinc (v := nI (j + 1)) (lv' := [(2, .int (nI (j + 1))), (0, .ref (m 0)), (1, .int s9), (3, .int ((tr j).2.2.2.2.1)), (4, .int (bI z9))]) zx zb dX12_mend_155 hl (k := 2) rfl (nI_inc _ 1) (by decide) rfl (fun ls hl => ?_)
              refine lv_goto (tgt := 4) zx zb dX12_mend_158 (by decide) ?_
              exact ih4 (j + 1) s9 t2 (by omega) (me_a hs (hz c_46) hus eu0 etb) (me_t ht2 (hz c_46) htk etb) (by omega) _ _ hP hD hS _ (lv_sub hl [1, 2, 0] rfl)
            · have c_46 : z9 = true := bI_ne c_46
              refine lv_iconst (v := nI 0) zx zb dX12_mend_49 (by decide) ?_
              refine lv_istore (lv' := [(4, .int (nI 0)), (0, .ref (m 0)), (1, .int s9), (2, .int (nI j)), (3, .int ((tr j).2.2.2.2.1))]) zx zb dX12_mend_50 hl (by decide) rfl (fun ls hl => ?_)
              refine lv_iconst (v := nI 0) zx zb dX12_mend_52 (by decide) ?_
              refine lv_istore (lv' := [(5, .int (nI 0)), (4, .int (nI 0)), (0, .ref (m 0)), (1, .int s9), (2, .int (nI j)), (3, .int ((tr j).2.2.2.2.1))]) zx zb dX12_mend_53 hl (by decide) rfl (fun ls hl => ?_)
              have L55 : ∀ (nn : Nat) (i : Nat) (z2 : Bool), (i ≤ j) → (z2 = orN (meC tr (meF tr ff j) j v9) i) → j - i < nn → ∀ (H : Heap) (locs : List Loc), bP Γ [bMo Γ m M, bA Γ (m 1) 259 b, bA Γ (m 9) 6 t2] H → bD AA [bMo Γ m M, bA Γ (m 1) 259 b, bA Γ (m 9) 6 t2] → va_S AA ss.heap H locs → ∀ (ls : Array Slot), lv_has ls 6 [(0, .ref (m 0)), (1, .int s9), (2, .int (nI j)), (3, .int ((tr j).2.2.2.2.1)), (4, .int (bI z2)), (5, .int (nI i))] → W pp l ee { frames := 2, cells := 0, slots := 0, locals := 43 } ss mm [.ref (m 0)].toArray bb me cd H locs 0 0 QQ (F0 mm 55 ls []) := by
                intro nn
                induction nn with
                | zero => intro i z2 hi hz2 hm; exact absurd hm (Nat.not_lt_zero _)
                | succ nn ih55 =>
                  intro i z2 hi hz2 hm55 H locs hP hD hS ls hl
                  refine lv_iload zx zb dX12_mend_55 (lv_at hl 5 rfl) ?_
                  refine lv_iload_n zx zb dX12_mend_57 rfl (lv_at hl 2 rfl) ?_
                  refine lv_icmp_ge (tgt := 120) zx zb dX12_mend_58 (by decide) (fun c_58 => ?_) (fun c_58 => ?_)
                  · have c_58 : j ≤ i := (nI_leI (a := j) (b := i) (by omega) (by omega)).mp c_58
                    have ei : i = j := (by omega)
                    have hk2 : z2 = decide (us < v9) := (ei ▸ hz2 : z2 = orN (meC tr (meF tr ff j) j v9) j).trans (key v9 hu0)
                    refine lv_aload_n zx zb dX12_mend_120 rfl (lv_at hl 0 rfl) ?_
                    refine g_get (v := .ref (m 9)) XX hP 0 0 rfl rfl rfl iwX12 15 (by decide) fl_X12_35 rfl dX12_mend_121 ?_
                    refine lv_iload_n zx zb dX12_mend_124 rfl (lv_at hl 2 rfl) ?_
                    refine lv_dup2_11 zx zb dX12_mend_125 rfl rfl ?_
                    refine g_ialdN (i := j) XX hP 2 0 rfl rfl (by omega) (by decide) dX12_mend_126 ?_
                    refine g_top (y := nI v9) (ht2) ?_
                    refine lv_iload zx zb dX12_mend_127 (lv_at hl 4 rfl) ?_
                    refine lv_if_eq (tgt := 136) zx zb dX12_mend_129 (by decide) (fun c_129 => ?_) (fun c_129 => ?_)
                    · have c_129 : z2 = false := bI_0.mp c_129
                      have hnl : ¬ us < v9 := of_decide_eq_false (hk2.symm.trans c_129)
                      refine lv_iconst (v := nI 0) zx zb dX12_mend_136 (by decide) ?_
                      refine lv_isub zx zb dX12_mend_137 ?_
                      refine g_top (y := nI (v9 - 0)) (pk_sub (by omega)) ?_
                      refine g_iastN (x := nI (v9 - 0)) (i := j) (blk' := bA Γ (m 9) 6 (upd t2 j (nI (v9 - 0)))) (bs' := [bMo Γ m M, bA Γ (m 1) 259 b, bA Γ (m 9) 6 (upd t2 j (nI (v9 - 0)))]) XX hP hD hS 2 0 rfl rfl (by omega) (by decide) rfl rfl dX12_mend_138 (fun H locs hP hD hS => ?_)
                      refine lv_iload_n zx zb dX12_mend_139 rfl (lv_at hl 1 rfl) ?_
                      refine lv_iload zx zb dX12_mend_140 (lv_at hl 4 rfl) ?_
                      refine lv_if_eq (tgt := 149) zx zb dX12_mend_142 (by decide) (fun c_142 => ?_) (fun c_142 => ?_)
                      · have c_142 : z2 = false := bI_0.mp c_142
                        refine lv_iconst (v := nI 0) zx zb dX12_mend_149 (by decide) ?_
                        refine lv_iadd zx zb dX12_mend_150 ?_
                        refine g_top (y := s9 + 0) rfl ?_
                        refine lv_istore_n (lv' := [(1, .int (s9 + 0)), (0, .ref (m 0)), (2, .int (nI j)), (3, .int ((tr j).2.2.2.2.1)), (4, .int (bI z2)), (5, .int (nI i))]) zx zb dX12_mend_151 rfl hl (by decide) rfl (fun ls hl => ?_)
                        refine lv_goto (tgt := 44) zx zb dX12_mend_152 (by decide) ?_
                        exact ih44 v9 z2 (s9 + 0) (upd t2 j (nI (v9 - 0))) (by omega) (by omega) (pk_us) (fun k hk => (pk_un (by omega)).trans (htk k hk)) (by first | exact me_s1 hs (by omega) hu0 | (rw [add_zero']; exact hs) | exact absurd (c_129.symm.trans c_142) (by decide) | exact absurd (c_142.symm.trans c_129) (by decide)) (by first | (exact fun h => absurd (c_129.symm.trans h) (by decide)) | (exact fun _ => by omega)) (by first | exact me_m1 hlt c_46 hm44 | exact me_m2 c_46 c_129 hm44) _ _ hP hD hS _ (lv_sub hl [1, 0, 2, 3, 4] rfl)
                      · have c_142 : z2 = true := bI_ne c_142
                        refine lv_iconst (v := nI 1) zx zb dX12_mend_145 (by decide) ?_
                        refine lv_goto (tgt := 150) zx zb dX12_mend_146 (by decide) ?_
                        refine lv_iadd zx zb dX12_mend_150 ?_
                        refine g_top (y := s9 + 1) rfl ?_
                        refine lv_istore_n (lv' := [(1, .int (s9 + 1)), (0, .ref (m 0)), (2, .int (nI j)), (3, .int ((tr j).2.2.2.2.1)), (4, .int (bI z2)), (5, .int (nI i))]) zx zb dX12_mend_151 rfl hl (by decide) rfl (fun ls hl => ?_)
                        refine lv_goto (tgt := 44) zx zb dX12_mend_152 (by decide) ?_
                        exact ih44 v9 z2 (s9 + 1) (upd t2 j (nI (v9 - 0))) (by omega) (by omega) (pk_us) (fun k hk => (pk_un (by omega)).trans (htk k hk)) (by first | exact me_s1 hs (by omega) hu0 | (rw [add_zero']; exact hs) | exact absurd (c_129.symm.trans c_142) (by decide) | exact absurd (c_142.symm.trans c_129) (by decide)) (by first | (exact fun h => absurd (c_129.symm.trans h) (by decide)) | (exact fun _ => by omega)) (by first | exact me_m1 hlt c_46 hm44 | exact me_m2 c_46 c_129 hm44) _ _ hP hD hS _ (lv_sub hl [1, 0, 2, 3, 4] rfl)
                    · have c_129 : z2 = true := bI_ne c_129
                      have hlt : us < v9 := of_decide_eq_true (hk2.symm.trans c_129)
                      refine lv_iconst (v := nI 1) zx zb dX12_mend_132 (by decide) ?_
                      refine lv_goto (tgt := 137) zx zb dX12_mend_133 (by decide) ?_
                      refine lv_isub zx zb dX12_mend_137 ?_
                      refine g_top (y := nI (v9 - 1)) (pk_sub (by omega)) ?_
                      refine g_iastN (x := nI (v9 - 1)) (i := j) (blk' := bA Γ (m 9) 6 (upd t2 j (nI (v9 - 1)))) (bs' := [bMo Γ m M, bA Γ (m 1) 259 b, bA Γ (m 9) 6 (upd t2 j (nI (v9 - 1)))]) XX hP hD hS 2 0 rfl rfl (by omega) (by decide) rfl rfl dX12_mend_138 (fun H locs hP hD hS => ?_)
                      refine lv_iload_n zx zb dX12_mend_139 rfl (lv_at hl 1 rfl) ?_
                      refine lv_iload zx zb dX12_mend_140 (lv_at hl 4 rfl) ?_
                      refine lv_if_eq (tgt := 149) zx zb dX12_mend_142 (by decide) (fun c_142 => ?_) (fun c_142 => ?_)
                      · have c_142 : z2 = false := bI_0.mp c_142
                        refine lv_iconst (v := nI 0) zx zb dX12_mend_149 (by decide) ?_
                        refine lv_iadd zx zb dX12_mend_150 ?_
                        refine g_top (y := s9 + 0) rfl ?_
                        refine lv_istore_n (lv' := [(1, .int (s9 + 0)), (0, .ref (m 0)), (2, .int (nI j)), (3, .int ((tr j).2.2.2.2.1)), (4, .int (bI z2)), (5, .int (nI i))]) zx zb dX12_mend_151 rfl hl (by decide) rfl (fun ls hl => ?_)
                        refine lv_goto (tgt := 44) zx zb dX12_mend_152 (by decide) ?_
                        exact ih44 (v9 - 1) z2 (s9 + 0) (upd t2 j (nI (v9 - 1))) (by omega) (by omega) (pk_us) (fun k hk => (pk_un (by omega)).trans (htk k hk)) (by first | exact me_s1 hs (by omega) hu0 | (rw [add_zero']; exact hs) | exact absurd (c_129.symm.trans c_142) (by decide) | exact absurd (c_142.symm.trans c_129) (by decide)) (by first | (exact fun h => absurd (c_129.symm.trans h) (by decide)) | (exact fun _ => by omega)) (by first | exact me_m1 hlt c_46 hm44 | exact me_m2 c_46 c_129 hm44) _ _ hP hD hS _ (lv_sub hl [1, 0, 2, 3, 4] rfl)
                      · have c_142 : z2 = true := bI_ne c_142
                        refine lv_iconst (v := nI 1) zx zb dX12_mend_145 (by decide) ?_
                        refine lv_goto (tgt := 150) zx zb dX12_mend_146 (by decide) ?_
                        refine lv_iadd zx zb dX12_mend_150 ?_
                        refine g_top (y := s9 + 1) rfl ?_
                        refine lv_istore_n (lv' := [(1, .int (s9 + 1)), (0, .ref (m 0)), (2, .int (nI j)), (3, .int ((tr j).2.2.2.2.1)), (4, .int (bI z2)), (5, .int (nI i))]) zx zb dX12_mend_151 rfl hl (by decide) rfl (fun ls hl => ?_)
                        refine lv_goto (tgt := 44) zx zb dX12_mend_152 (by decide) ?_
                        exact ih44 (v9 - 1) z2 (s9 + 1) (upd t2 j (nI (v9 - 1))) (by omega) (by omega) (pk_us) (fun k hk => (pk_un (by omega)).trans (htk k hk)) (by first | exact me_s1 hs (by omega) hu0 | (rw [add_zero']; exact hs) | exact absurd (c_129.symm.trans c_142) (by decide) | exact absurd (c_142.symm.trans c_129) (by decide)) (by first | (exact fun h => absurd (c_129.symm.trans h) (by decide)) | (exact fun _ => by omega)) (by first | exact me_m1 hlt c_46 hm44 | exact me_m2 c_46 c_129 hm44) _ _ hP hD hS _ (lv_sub hl [1, 0, 2, 3, 4] rfl)
                  · have c_58 : ¬ (j ≤ i) := fun h => c_58 ((nI_leI (a := j) (b := i) (by omega) (by omega)).mpr h)
                    refine lv_iload zx zb dX12_mend_61 (lv_at hl 4 rfl) ?_
                    refine lv_if_ne (tgt := 107) zx zb dX12_mend_63 (by decide) (fun c_63 => ?_) (fun c_63 => ?_)
                    · have c_63 : z2 = true := bI_ne c_63
                      refine lv_iconst (v := nI 1) zx zb dX12_mend_107 (by decide) ?_
                      refine lv_goto (tgt := 112) zx zb dX12_mend_108 (by decide) ?_
                      refine lv_istore (lv' := [(4, .int (nI 1)), (0, .ref (m 0)), (1, .int s9), (2, .int (nI j)), (3, .int ((tr j).2.2.2.2.1)), (5, .int (nI i))]) zx zb dX12_mend_112 hl (by decide) rfl (fun ls hl => ?_)
                      refine lv_iinc (v := nI (i + 1)) (lv' := [(5, .int (nI (i + 1))), (4, .int (nI 1)), (0, .ref (m 0)), (1, .int s9), (2, .int (nI j)), (3, .int ((tr j).2.2.2.2.1))]) zx zb dX12_mend_114 hl (k := 5) rfl (nI_inc _ 1) (by decide) rfl (fun ls hl => ?_)
                      refine lv_goto (tgt := 55) zx zb dX12_mend_117 (by decide) ?_
                      exact ih55 (i + 1) true (by omega) (by rw [orN, ← hz2]; unfold meC; first | (rw [c_63]; rfl) | (rw [c_63, c_73, show shY (tFirst (tr i)) (meF tr ff j i) (tFirst (tr j)) (nI v9) = _ from c_104]; rfl) | (rw [c_63, c_73]; rfl)) (by omega) _ _ hP hD hS _ (lv_sub hl [2, 3, 4, 5, 1, 0] rfl)
                    · have c_63 : z2 = false := bI_0.mp c_63
                      refine lv_aload_n zx zb dX12_mend_66 rfl (lv_at hl 0 rfl) ?_
                      refine lv_iload zx zb dX12_mend_67 (lv_at hl 5 rfl) ?_
                      refine lv_iload_n zx zb dX12_mend_69 rfl (lv_at hl 2 rfl) ?_
                      refine call_Vi (As := [.int (nI i), .int (nI j)]) (rest := []) XX cv_X12_257 (c_X12_shareCells Γ l m M b C tr Y pc P i j (hr) (hI) (by omega) (by omega)) hP hD hS hA [0, 1] (by decide) rfl (fun _ => rfl) 0 0 rfl rfl rfl rfl hl.1 rfl ⟨⟨by decide, by decide⟩, by decide, by decide⟩ (Nat.le_of_ble_eq_true rfl) dX12_mend_70 (fun r_70 u H locs hw hP hD hS => ?_)
                      have hw := hw.symm
                      subst hw
                      have hP : bP Γ [bMo Γ m M, bA Γ (m 1) 259 b, bA Γ (m 9) 6 t2] H := hP
                      have hD : bD AA [bMo Γ m M, bA Γ (m 1) 259 b, bA Γ (m 9) 6 t2] := hD
                      refine lv_if_eq (tgt := 111) zx zb dX12_mend_73 (by decide) (fun c_73 => ?_) (fun c_73 => ?_)
                      · have c_73 : (shC tr i j) = false := bI_0.mp c_73
                        refine lv_iconst (v := nI 0) zx zb dX12_mend_111 (by decide) ?_
                        refine lv_istore (lv' := [(4, .int (nI 0)), (0, .ref (m 0)), (1, .int s9), (2, .int (nI j)), (3, .int ((tr j).2.2.2.2.1)), (5, .int (nI i))]) zx zb dX12_mend_112 hl (by decide) rfl (fun ls hl => ?_)
                        refine lv_iinc (v := nI (i + 1)) (lv' := [(5, .int (nI (i + 1))), (4, .int (nI 0)), (0, .ref (m 0)), (1, .int s9), (2, .int (nI j)), (3, .int ((tr j).2.2.2.2.1))]) zx zb dX12_mend_114 hl (k := 5) rfl (nI_inc _ 1) (by decide) rfl (fun ls hl => ?_)
                        refine lv_goto (tgt := 55) zx zb dX12_mend_117 (by decide) ?_
                        exact ih55 (i + 1) false (by omega) (by rw [orN, ← hz2]; unfold meC; first | (rw [c_63]; rfl) | (rw [c_63, c_73, show shY (tFirst (tr i)) (meF tr ff j i) (tFirst (tr j)) (nI v9) = _ from c_104]; rfl) | (rw [c_63, c_73]; rfl)) (by omega) _ _ hP hD hS _ (lv_sub hl [2, 3, 4, 5, 1, 0] rfl)
                      · have c_73 : (shC tr i j) = true := bI_ne c_73
                        refine lv_aload_n zx zb dX12_mend_76 rfl (lv_at hl 0 rfl) ?_
                        refine g_get (v := .ref (m 1)) XX hP 0 0 rfl rfl rfl iwX12 0 (by decide) fl_X12_7 rfl dX12_mend_77 ?_
                        refine lv_iload zx zb dX12_mend_80 (lv_at hl 5 rfl) ?_
                        refine lv_iconst (v := nI 3) zx zb dX12_mend_82 (by decide) ?_
                        refine callR_Si (As := [.int (nI i), .int (nI 3)]) (rest := [.ref (m 1)]) XX cs_X12_96 (c_X12_of0 Γ l i 3 ) hP hD hS hA nil_mem nil_D rfl hl.1 rfl ⟨⟨by decide, by decide⟩, by decide, by decide⟩ (Nat.le_of_ble_eq_true rfl) dX12_mend_83 (fun r_83 H locs hw hP hS => ?_)
                        have hw := hw.symm
                        subst hw
                        refine g_ialdN (i := 55 + 7 * i + 3) XX hP 1 0 rfl rfl (by omega) (by decide) dX12_mend_86 ?_
                        refine g_top (y := (tr i).2.2.2.2.1) (Rel.t3 hr (by omega)) ?_
                        refine lv_aload_n zx zb dX12_mend_87 rfl (lv_at hl 0 rfl) ?_
                        refine g_get (v := .ref (m 9)) XX hP 0 0 rfl rfl rfl iwX12 15 (by decide) fl_X12_35 rfl dX12_mend_88 ?_
                        refine lv_iload zx zb dX12_mend_91 (lv_at hl 5 rfl) ?_
                        refine g_ialdN (i := i) XX hP 2 0 rfl rfl (by omega) (by decide) dX12_mend_93 ?_
                        refine g_top (y := meF tr ff j i) (htk i (by omega)) ?_
                        refine lv_iload_n zx zb dX12_mend_94 rfl (lv_at hl 3 rfl) ?_
                        refine lv_aload_n zx zb dX12_mend_95 rfl (lv_at hl 0 rfl) ?_
                        refine g_get (v := .ref (m 9)) XX hP 0 0 rfl rfl rfl iwX12 15 (by decide) fl_X12_35 rfl dX12_mend_96 ?_
                        refine lv_iload_n zx zb dX12_mend_99 rfl (lv_at hl 2 rfl) ?_
                        refine g_ialdN (i := j) XX hP 2 0 rfl rfl (by omega) (by decide) dX12_mend_100 ?_
                        refine g_top (y := nI v9) (ht2) ?_
                        refine callR_Si (As := [.int ((tr i).2.2.2.2.1), .int (meF tr ff j i), .int ((tr j).2.2.2.2.1), .int (nI v9)]) (rest := []) XX cs_X12_260 (c_X12_shareYears Γ l ((tr i).2.2.2.2.1) (meF tr ff j i) ((tr j).2.2.2.2.1) (nI v9) ) hP hD hS hA nil_mem nil_D rfl hl.1 rfl ⟨⟨by decide, by decide⟩, by decide, by decide⟩ (Nat.le_of_ble_eq_true rfl) dX12_mend_101 (fun r_101 H locs hw hP hS => ?_)
                        have hw := hw.symm
                        subst hw
                        refine lv_if_eq (tgt := 111) zx zb dX12_mend_104 (by decide) (fun c_104 => ?_) (fun c_104 => ?_)
                        · have c_104 : (shY ((tr i).2.2.2.2.1) (meF tr ff j i) ((tr j).2.2.2.2.1) (nI v9)) = false := bI_0.mp c_104
                          refine lv_iconst (v := nI 0) zx zb dX12_mend_111 (by decide) ?_
                          refine lv_istore (lv' := [(4, .int (nI 0)), (0, .ref (m 0)), (1, .int s9), (2, .int (nI j)), (3, .int ((tr j).2.2.2.2.1)), (5, .int (nI i))]) zx zb dX12_mend_112 hl (by decide) rfl (fun ls hl => ?_)
                          refine lv_iinc (v := nI (i + 1)) (lv' := [(5, .int (nI (i + 1))), (4, .int (nI 0)), (0, .ref (m 0)), (1, .int s9), (2, .int (nI j)), (3, .int ((tr j).2.2.2.2.1))]) zx zb dX12_mend_114 hl (k := 5) rfl (nI_inc _ 1) (by decide) rfl (fun ls hl => ?_)
                          refine lv_goto (tgt := 55) zx zb dX12_mend_117 (by decide) ?_
                          exact ih55 (i + 1) false (by omega) (by rw [orN, ← hz2]; unfold meC; first | (rw [c_63]; rfl) | (rw [c_63, c_73, show shY (tFirst (tr i)) (meF tr ff j i) (tFirst (tr j)) (nI v9) = _ from c_104]; rfl) | (rw [c_63, c_73]; rfl)) (by omega) _ _ hP hD hS _ (lv_sub hl [2, 3, 4, 5, 1, 0] rfl)
                        · have c_104 : (shY ((tr i).2.2.2.2.1) (meF tr ff j i) ((tr j).2.2.2.2.1) (nI v9)) = true := bI_ne c_104
                          refine lv_iconst (v := nI 1) zx zb dX12_mend_107 (by decide) ?_
                          refine lv_goto (tgt := 112) zx zb dX12_mend_108 (by decide) ?_
                          refine lv_istore (lv' := [(4, .int (nI 1)), (0, .ref (m 0)), (1, .int s9), (2, .int (nI j)), (3, .int ((tr j).2.2.2.2.1)), (5, .int (nI i))]) zx zb dX12_mend_112 hl (by decide) rfl (fun ls hl => ?_)
                          refine lv_iinc (v := nI (i + 1)) (lv' := [(5, .int (nI (i + 1))), (4, .int (nI 1)), (0, .ref (m 0)), (1, .int s9), (2, .int (nI j)), (3, .int ((tr j).2.2.2.2.1))]) zx zb dX12_mend_114 hl (k := 5) rfl (nI_inc _ 1) (by decide) rfl (fun ls hl => ?_)
                          refine lv_goto (tgt := 55) zx zb dX12_mend_117 (by decide) ?_
                          exact ih55 (i + 1) true (by omega) (by rw [orN, ← hz2]; unfold meC; first | (rw [c_63]; rfl) | (rw [c_63, c_73, show shY (tFirst (tr i)) (meF tr ff j i) (tFirst (tr j)) (nI v9) = _ from c_104]; rfl) | (rw [c_63, c_73]; rfl)) (by omega) _ _ hP hD hS _ (lv_sub hl [2, 3, 4, 5, 1, 0] rfl)
              exact L55 _ 0 false (by omega) (rfl) (Nat.lt_succ_self _) _ _ hP hD hS _ (lv_sub hl [2, 3, 4, 5, 1, 0] rfl)
        exact L44 _ u0 true a (upd t1 j ((tr j).2.2.2.2.2.1)) (hus) (Nat.le_refl _) (by rw [pk_us]; exact eu0) (fun k hk => (pk_un (by omega)).trans (ht k hk)) (by rw [Nat.sub_self, ← ha]; exact (add_zero' _).symm) (fun h => absurd h (by decide)) (Nat.lt_succ_self _) _ _ hP hD hS _ (lv_sub hl [2, 3, 4, 1, 0] rfl)
  exact L4 _ 0 0 tl (by omega) (rfl) (lt_0) (Nat.lt_succ_self _) _ _ hP hD hS _ (lv_sub hl [2, 1, 0] rfl)

set_option maxHeartbeats 4000000 in
set_option maxRecDepth 100000 in
theorem c_X12_image (Γ : GG) (l : Launch) (m : Nat → Nat) (M : MoV) (b : Nat → Int32) (im : Nat → Int32) (kp : Nat → Int32) (f : Nat → Int32) (a : Int32)  : Ci Γ l yX12_image cX12_image 3 (some (.int)) 2 42 0 0 [.ref (m 0), .int a] [bMo Γ m M, bA Γ (m 1) 259 b, bA Γ (m 2) 518 im, bZ Γ (m 3) 2 kp, bA Γ (m 6) 3 f] (fun (r : Int32) (u : (Nat → Int32) × (Nat → Int32) × (Nat → Int32)) => (wi a 0 1 = false → r = -2 ∧ u = (im, kp, moRef M f 0)) ∧ ∀ j, j < 2 → a = nI j → r = nI 1 ∧ u.2 = (upd kp j (nI 1), f) ∧ (∀ k, k < 259 → u.1 (259 * j + k) = b k) ∧ ∀ k, (k < 259 * j ∨ 259 * j + 259 ≤ k) → u.1 k = im k) (fun (u : (Nat → Int32) × (Nat → Int32) × (Nat → Int32)) => [bMo Γ m M, bA Γ (m 1) 259 b, bA Γ (m 2) 518 u.1, bZ Γ (m 3) 2 u.2.1, bA Γ (m 6) 3 u.2.2]) := by
  refine Ci.of (Or.inl rfl) (by decide) (Nat.le_of_ble_eq_true rfl) ?_
  intro pp ee ss mm bb me cd AA QQ XX hnm hA hP hD fin ls hl
  obtain ⟨zx, zb, hml, hown, hts, hK⟩ := id XX
  have hS : va_S AA ss.heap ss.heap [] := va_S.rf
  have hl : lv_has ls 3 [(0, .ref (m 0)), (1, .int a)] := hl
  refine lv_iload_n zx zb dX12_image_0 rfl (lv_at hl 1 rfl) ?_
  refine lv_i2l (v := a.toInt64) zx zb dX12_image_1 rfl ?_
  refine lv_lconst (v := (0 : Int32).toInt64) zx zb dX12_image_2 (by decide) ?_
  refine lv_lconst (v := (1 : Int32).toInt64) zx zb dX12_image_3 (by decide) ?_
  refine callR_Si (As := [.long a.toInt64, .long ((0 : Int32).toInt64), .long ((1 : Int32).toInt64)]) (rest := []) XX cs_X12_53 (c_X12_in Γ l a 0 1 ) hP hD hS hA nil_mem nil_D rfl hl.1 rfl ⟨⟨by decide, by decide⟩, by decide, by decide⟩ (Nat.le_of_ble_eq_true rfl) dX12_image_4 (fun r_4 H locs hw hP hS => ?_)
  have hw := hw.symm
  subst hw
  refine lv_if_ne (tgt := 15) zx zb dX12_image_7 (by decide) (fun c_7 => ?_) (fun c_7 => ?_)
  · have c_7 : (wi a 0 1) = true := bI_ne c_7
    obtain ⟨j, hj, rfl⟩ := wi_nat 0 1 c_7 rfl rfl (by decide)
    refine lv_iconst (v := nI 0) zx zb dX12_image_15 (by decide) ?_
    refine lv_istore_n (lv' := [(2, .int (nI 0)), (0, .ref (m 0)), (1, .int (nI j))]) zx zb dX12_image_16 rfl hl (by decide) rfl (fun ls hl => ?_)
    have L17 : ∀ (nn : Nat) (i : Nat) (h1 : Nat → Int32), (i ≤ 259) → (∀ k, k < i → h1 (259 * j + k) = b k) → (∀ k, (k < 259 * j ∨ 259 * j + 259 ≤ k) → h1 k = im k) → 259 - i < nn → ∀ (H : Heap) (locs : List Loc), bP Γ [bMo Γ m M, bA Γ (m 1) 259 b, bA Γ (m 2) 518 h1, bZ Γ (m 3) 2 kp, bA Γ (m 6) 3 f] H → bD AA [bMo Γ m M, bA Γ (m 1) 259 b, bA Γ (m 2) 518 h1, bZ Γ (m 3) 2 kp, bA Γ (m 6) 3 f] → va_S AA ss.heap H locs → ∀ (ls : Array Slot), lv_has ls 3 [(0, .ref (m 0)), (1, .int (nI j)), (2, .int (nI i))] → W pp l ee { frames := 2, cells := 0, slots := 0, locals := 42 } ss mm [.ref (m 0), .int (nI j)].toArray bb me cd H locs 0 0 QQ (F0 mm 17 ls []) := by
      intro nn
      induction nn with
      | zero => intro i h1 hi hz ho hm; exact absurd hm (Nat.not_lt_zero _)
      | succ nn ih17 =>
        intro i h1 hi hz ho hm17 H locs hP hD hS ls hl
        refine lv_iload_n zx zb dX12_image_17 rfl (lv_at hl 2 rfl) ?_
        refine lv_sipush (v := nI 259) zx zb dX12_image_18 (by decide) ?_
        refine lv_icmp_ge (tgt := 48) zx zb dX12_image_21 (by decide) (fun c_21 => ?_) (fun c_21 => ?_)
        · have c_21 : 259 ≤ i := (nI_leI (a := 259) (b := i) (by omega) (by omega)).mp c_21
          refine lv_aload_n zx zb dX12_image_48 rfl (lv_at hl 0 rfl) ?_
          refine g_get (v := .ref (m 3)) XX hP 0 0 rfl rfl rfl iwX12 2 (by decide) fl_X12_16 rfl dX12_image_49 ?_
          refine lv_iload_n zx zb dX12_image_52 rfl (lv_at hl 1 rfl) ?_
          refine lv_iconst (v := nI 1) zx zb dX12_image_53 (by decide) ?_
          refine g_zastN (x := nI 1) (i := j) (blk' := bZ Γ (m 3) 2 (upd kp j (nI 1))) (bs' := [bMo Γ m M, bA Γ (m 1) 259 b, bA Γ (m 2) 518 h1, bZ Γ (m 3) 2 (upd kp j (nI 1)), bA Γ (m 6) 3 f]) XX hP hD hS 3 0 rfl rfl (by omega) (by decide) rfl rfl dX12_image_54 (fun H locs hP hD hS => ?_)
          refine lv_iconst (v := nI 1) zx zb dX12_image_55 (by decide) ?_
          exact fin _ _ (nI 1) (h1, upd kp j (nI 1), f) 56 _ dX12_image_56 (fun h => by cases h) (⟨fun h => by rw [h] at c_7; exact absurd c_7 (by decide), fun j2 hj2 e => by have e := (nI_eq (by omega) (by omega)).mp e; subst e; exact ⟨rfl, rfl, fun k hk => hz k (by omega), ho⟩⟩) hP hD hS
        · have c_21 : ¬ (259 ≤ i) := fun h => c_21 ((nI_leI (a := 259) (b := i) (by omega) (by omega)).mpr h)
          refine lv_aload_n zx zb dX12_image_24 rfl (lv_at hl 0 rfl) ?_
          refine g_get (v := .ref (m 2)) XX hP 0 0 rfl rfl rfl iwX12 1 (by decide) fl_X12_13 rfl dX12_image_25 ?_
          refine lv_sipush (v := nI 259) zx zb dX12_image_28 (by decide) ?_
          refine lv_iload_n zx zb dX12_image_31 rfl (lv_at hl 1 rfl) ?_
          refine lv_imul zx zb dX12_image_32 ?_
          refine g_top (y := nI (259 * j)) (pk_mul 259 j) ?_
          refine lv_iload_n zx zb dX12_image_33 rfl (lv_at hl 2 rfl) ?_
          refine lv_iadd zx zb dX12_image_34 ?_
          refine g_top (y := nI (259 * j + i)) (nI_add (259 * j) i) ?_
          refine lv_aload_n zx zb dX12_image_35 rfl (lv_at hl 0 rfl) ?_
          refine g_get (v := .ref (m 1)) XX hP 0 0 rfl rfl rfl iwX12 0 (by decide) fl_X12_7 rfl dX12_image_36 ?_
          refine lv_iload_n zx zb dX12_image_39 rfl (lv_at hl 2 rfl) ?_
          refine g_ialdN (i := i) XX hP 1 0 rfl rfl (by omega) (by decide) dX12_image_40 ?_
          refine g_iastN (x := b i) (i := 259 * j + i) (blk' := bA Γ (m 2) 518 (upd h1 (259 * j + i) (b i))) (bs' := [bMo Γ m M, bA Γ (m 1) 259 b, bA Γ (m 2) 518 (upd h1 (259 * j + i) (b i)), bZ Γ (m 3) 2 kp, bA Γ (m 6) 3 f]) XX hP hD hS 2 0 rfl rfl (by omega) (by decide) rfl rfl dX12_image_41 (fun H locs hP hD hS => ?_)
          refine lv_iinc (v := nI (i + 1)) (lv' := [(2, .int (nI (i + 1))), (0, .ref (m 0)), (1, .int (nI j))]) zx zb dX12_image_42 hl (k := 2) rfl (nI_inc _ 1) (by decide) rfl (fun ls hl => ?_)
          refine lv_goto (tgt := 17) zx zb dX12_image_45 (by decide) ?_
          exact ih17 (i + 1) (upd h1 (259 * j + i) (b i)) (by omega) (cpy_i (im := im) hz) (cpy_o ho (by omega)) (by omega) _ _ hP hD hS _ (lv_sub hl [1, 2, 0] rfl)
    exact L17 _ 0 im (by omega) (lt_0) (fun k _ => rfl) (Nat.lt_succ_self _) _ _ hP hD hS _ (lv_sub hl [1, 2, 0] rfl)
  · have c_7 : (wi a 0 1) = false := bI_0.mp c_7
    refine lv_aload_n zx zb dX12_image_10 rfl (lv_at hl 0 rfl) ?_
    refine call_Vi (As := []) (rest := []) XX cv_X12_59 (c_X12_bad Γ l m M f ) hP hD hS hA [0, 4] (by decide) rfl (fun _ => rfl) 0 0 rfl rfl rfl rfl hl.1 rfl ⟨⟨by decide, by decide⟩, by decide, by decide⟩ (Nat.le_of_ble_eq_true rfl) dX12_image_11 (fun r_11 u H locs hw hP hD hS => ?_)
    obtain ⟨hw1, hw2⟩ := hw
    have hw1 := hw1.symm
    have hw2 := hw2.symm
    subst hw1
    subst hw2
    have hP : bP Γ [bMo Γ m M, bA Γ (m 1) 259 b, bA Γ (m 2) 518 im, bZ Γ (m 3) 2 kp, bA Γ (m 6) 3 (moRef M f 0)] H := hP
    have hD : bD AA [bMo Γ m M, bA Γ (m 1) 259 b, bA Γ (m 2) 518 im, bZ Γ (m 3) 2 kp, bA Γ (m 6) 3 (moRef M f 0)] := hD
    exact fin _ _ (-2) (im, kp, (moRef M f 0)) 14 _ dX12_image_14 (fun h => by cases h) (⟨fun _ => ⟨rfl, rfl⟩, fun j hj e => by rw [e] at c_7; exact absurd c_7 (by rcases (show j = 0 ∨ j = 1 by omega) with rfl | rfl <;> decide)⟩) hP hD hS

set_option maxHeartbeats 4000000 in
set_option maxRecDepth 100000 in
theorem c_X12_from (Γ : GG) (l : Launch) (m : Nat → Nat) (M : MoV) (b : Nat → Int32) (im : Nat → Int32) (kp : Nat → Int32) (f : Nat → Int32) (a : Int32)  : Ci Γ l yX12_from cX12_from 3 (some (.int)) 2 42 0 0 [.ref (m 0), .int a] [bMo Γ m M, bA Γ (m 1) 259 b, bA Γ (m 2) 518 im, bZ Γ (m 3) 2 kp, bA Γ (m 6) 3 f] (fun (r : Int32) (u : (Nat → Int32) × (Nat → Int32)) => (wi a 0 1 = false → r = -2 ∧ u = (b, moRef M f 0)) ∧ ∀ j, j < 2 → a = nI j → (kp j = 0 → r = -3 ∧ u = (b, moRef M f 1)) ∧ (¬ kp j = 0 → r = nI 1 ∧ u.2 = f ∧ ∀ k, k < 259 → u.1 k = im (259 * j + k))) (fun (u : (Nat → Int32) × (Nat → Int32)) => [bMo Γ m M, bA Γ (m 1) 259 u.1, bA Γ (m 2) 518 im, bZ Γ (m 3) 2 kp, bA Γ (m 6) 3 u.2]) := by
  refine Ci.of (Or.inl rfl) (by decide) (Nat.le_of_ble_eq_true rfl) ?_
  intro pp ee ss mm bb me cd AA QQ XX hnm hA hP hD fin ls hl
  obtain ⟨zx, zb, hml, hown, hts, hK⟩ := id XX
  have hS : va_S AA ss.heap ss.heap [] := va_S.rf
  have hl : lv_has ls 3 [(0, .ref (m 0)), (1, .int a)] := hl
  refine lv_iload_n zx zb dX12_from_0 rfl (lv_at hl 1 rfl) ?_
  refine lv_i2l (v := a.toInt64) zx zb dX12_from_1 rfl ?_
  refine lv_lconst (v := (0 : Int32).toInt64) zx zb dX12_from_2 (by decide) ?_
  refine lv_lconst (v := (1 : Int32).toInt64) zx zb dX12_from_3 (by decide) ?_
  refine callR_Si (As := [.long a.toInt64, .long ((0 : Int32).toInt64), .long ((1 : Int32).toInt64)]) (rest := []) XX cs_X12_53 (c_X12_in Γ l a 0 1 ) hP hD hS hA nil_mem nil_D rfl hl.1 rfl ⟨⟨by decide, by decide⟩, by decide, by decide⟩ (Nat.le_of_ble_eq_true rfl) dX12_from_4 (fun r_4 H locs hw hP hS => ?_)
  have hw := hw.symm
  subst hw
  refine lv_if_ne (tgt := 15) zx zb dX12_from_7 (by decide) (fun c_7 => ?_) (fun c_7 => ?_)
  · have c_7 : (wi a 0 1) = true := bI_ne c_7
    obtain ⟨j, hj, rfl⟩ := wi_nat 0 1 c_7 rfl rfl (by decide)
    refine lv_aload_n zx zb dX12_from_15 rfl (lv_at hl 0 rfl) ?_
    refine g_get (v := .ref (m 3)) XX hP 0 0 rfl rfl rfl iwX12 2 (by decide) fl_X12_16 rfl dX12_from_16 ?_
    refine lv_iload_n zx zb dX12_from_19 rfl (lv_at hl 1 rfl) ?_
    refine g_zaldN (i := j) XX hP 3 0 rfl rfl (by omega) (by decide) dX12_from_20 ?_
    refine lv_if_ne (tgt := 29) zx zb dX12_from_21 (by decide) (fun c_21 => ?_) (fun c_21 => ?_)
    · have c_21 : ¬ ((kp j) = (0 : Int32)) := c_21
      refine lv_iconst (v := nI 0) zx zb dX12_from_29 (by decide) ?_
      refine lv_istore_n (lv' := [(2, .int (nI 0)), (0, .ref (m 0)), (1, .int (nI j))]) zx zb dX12_from_30 rfl hl (by decide) rfl (fun ls hl => ?_)
      have L31 : ∀ (nn : Nat) (i : Nat) (h1 : Nat → Int32), (i ≤ 259) → (∀ k, k < i → h1 k = im (259 * j + k)) → 259 - i < nn → ∀ (H : Heap) (locs : List Loc), bP Γ [bMo Γ m M, bA Γ (m 1) 259 h1, bA Γ (m 2) 518 im, bZ Γ (m 3) 2 kp, bA Γ (m 6) 3 f] H → bD AA [bMo Γ m M, bA Γ (m 1) 259 h1, bA Γ (m 2) 518 im, bZ Γ (m 3) 2 kp, bA Γ (m 6) 3 f] → va_S AA ss.heap H locs → ∀ (ls : Array Slot), lv_has ls 3 [(0, .ref (m 0)), (1, .int (nI j)), (2, .int (nI i))] → W pp l ee { frames := 2, cells := 0, slots := 0, locals := 42 } ss mm [.ref (m 0), .int (nI j)].toArray bb me cd H locs 0 0 QQ (F0 mm 31 ls []) := by
        intro nn
        induction nn with
        | zero => intro i h1 hi hz hm; exact absurd hm (Nat.not_lt_zero _)
        | succ nn ih31 =>
          intro i h1 hi hz hm31 H locs hP hD hS ls hl
          refine lv_iload_n zx zb dX12_from_31 rfl (lv_at hl 2 rfl) ?_
          refine lv_sipush (v := nI 259) zx zb dX12_from_32 (by decide) ?_
          refine lv_icmp_ge (tgt := 62) zx zb dX12_from_35 (by decide) (fun c_35 => ?_) (fun c_35 => ?_)
          · have c_35 : 259 ≤ i := (nI_leI (a := 259) (b := i) (by omega) (by omega)).mp c_35
            refine lv_iconst (v := nI 1) zx zb dX12_from_62 (by decide) ?_
            exact fin _ _ (nI 1) (h1, f) 63 _ dX12_from_63 (fun h => by cases h) (⟨fun h => by rw [h] at c_7; exact absurd c_7 (by decide), fun j2 hj2 e => by have e := (nI_eq (by omega) (by omega)).mp e; subst e; exact ⟨fun h => absurd h c_21, fun _ => ⟨rfl, rfl, fun k hk => hz k (by omega)⟩⟩⟩) hP hD hS
          · have c_35 : ¬ (259 ≤ i) := fun h => c_35 ((nI_leI (a := 259) (b := i) (by omega) (by omega)).mpr h)
            refine lv_aload_n zx zb dX12_from_38 rfl (lv_at hl 0 rfl) ?_
            refine g_get (v := .ref (m 1)) XX hP 0 0 rfl rfl rfl iwX12 0 (by decide) fl_X12_7 rfl dX12_from_39 ?_
            refine lv_iload_n zx zb dX12_from_42 rfl (lv_at hl 2 rfl) ?_
            refine lv_aload_n zx zb dX12_from_43 rfl (lv_at hl 0 rfl) ?_
            refine g_get (v := .ref (m 2)) XX hP 0 0 rfl rfl rfl iwX12 1 (by decide) fl_X12_13 rfl dX12_from_44 ?_
            refine lv_sipush (v := nI 259) zx zb dX12_from_47 (by decide) ?_
            refine lv_iload_n zx zb dX12_from_50 rfl (lv_at hl 1 rfl) ?_
            refine lv_imul zx zb dX12_from_51 ?_
            refine g_top (y := nI (259 * j)) (pk_mul 259 j) ?_
            refine lv_iload_n zx zb dX12_from_52 rfl (lv_at hl 2 rfl) ?_
            refine lv_iadd zx zb dX12_from_53 ?_
            refine g_top (y := nI (259 * j + i)) (nI_add (259 * j) i) ?_
            refine g_ialdN (i := 259 * j + i) XX hP 2 0 rfl rfl (by omega) (by decide) dX12_from_54 ?_
            refine g_iastN (x := im (259 * j + i)) (i := i) (blk' := bA Γ (m 1) 259 (upd h1 i (im (259 * j + i)))) (bs' := [bMo Γ m M, bA Γ (m 1) 259 (upd h1 i (im (259 * j + i))), bA Γ (m 2) 518 im, bZ Γ (m 3) 2 kp, bA Γ (m 6) 3 f]) XX hP hD hS 1 0 rfl rfl (by omega) (by decide) rfl rfl dX12_from_55 (fun H locs hP hD hS => ?_)
            refine lv_iinc (v := nI (i + 1)) (lv' := [(2, .int (nI (i + 1))), (0, .ref (m 0)), (1, .int (nI j))]) zx zb dX12_from_56 hl (k := 2) rfl (nI_inc _ 1) (by decide) rfl (fun ls hl => ?_)
            refine lv_goto (tgt := 31) zx zb dX12_from_59 (by decide) ?_
            exact ih31 (i + 1) (upd h1 i (im (259 * j + i))) (by omega) (cpy_s hz) (by omega) _ _ hP hD hS _ (lv_sub hl [1, 2, 0] rfl)
      exact L31 _ 0 b (by omega) (lt_0) (Nat.lt_succ_self _) _ _ hP hD hS _ (lv_sub hl [1, 2, 0] rfl)
    · have c_21 : (kp j) = (0 : Int32) := c_21
      refine lv_aload_n zx zb dX12_from_24 rfl (lv_at hl 0 rfl) ?_
      refine call_Vi (As := []) (rest := []) XX cv_X12_102 (c_X12_no Γ l m M f ) hP hD hS hA [0, 4] (by decide) rfl (fun _ => rfl) 0 0 rfl rfl rfl rfl hl.1 rfl ⟨⟨by decide, by decide⟩, by decide, by decide⟩ (Nat.le_of_ble_eq_true rfl) dX12_from_25 (fun r_25 u H locs hw hP hD hS => ?_)
      obtain ⟨hw1, hw2⟩ := hw
      have hw1 := hw1.symm
      have hw2 := hw2.symm
      subst hw1
      subst hw2
      have hP : bP Γ [bMo Γ m M, bA Γ (m 1) 259 b, bA Γ (m 2) 518 im, bZ Γ (m 3) 2 kp, bA Γ (m 6) 3 (moRef M f 1)] H := hP
      have hD : bD AA [bMo Γ m M, bA Γ (m 1) 259 b, bA Γ (m 2) 518 im, bZ Γ (m 3) 2 kp, bA Γ (m 6) 3 (moRef M f 1)] := hD
      exact fin _ _ (-3) (b, (moRef M f 1)) 28 _ dX12_from_28 (fun h => by cases h) (⟨fun h => by rw [h] at c_7; exact absurd c_7 (by decide), fun j2 hj2 e => by have e := (nI_eq (by omega) (by omega)).mp e; subst e; exact ⟨fun _ => ⟨rfl, rfl⟩, fun h => absurd c_21 h⟩⟩) hP hD hS
  · have c_7 : (wi a 0 1) = false := bI_0.mp c_7
    refine lv_aload_n zx zb dX12_from_10 rfl (lv_at hl 0 rfl) ?_
    refine call_Vi (As := []) (rest := []) XX cv_X12_59 (c_X12_bad Γ l m M f ) hP hD hS hA [0, 4] (by decide) rfl (fun _ => rfl) 0 0 rfl rfl rfl rfl hl.1 rfl ⟨⟨by decide, by decide⟩, by decide, by decide⟩ (Nat.le_of_ble_eq_true rfl) dX12_from_11 (fun r_11 u H locs hw hP hD hS => ?_)
    obtain ⟨hw1, hw2⟩ := hw
    have hw1 := hw1.symm
    have hw2 := hw2.symm
    subst hw1
    subst hw2
    have hP : bP Γ [bMo Γ m M, bA Γ (m 1) 259 b, bA Γ (m 2) 518 im, bZ Γ (m 3) 2 kp, bA Γ (m 6) 3 (moRef M f 0)] H := hP
    have hD : bD AA [bMo Γ m M, bA Γ (m 1) 259 b, bA Γ (m 2) 518 im, bZ Γ (m 3) 2 kp, bA Γ (m 6) 3 (moRef M f 0)] := hD
    exact fin _ _ (-2) (b, (moRef M f 0)) 14 _ dX12_from_14 (fun h => by cases h) (⟨fun _ => ⟨rfl, rfl⟩, fun j hj e => by rw [e] at c_7; exact absurd c_7 (by rcases (show j = 0 ∨ j = 1 by omega) with rfl | rfl <;> decide)⟩) hP hD hS
