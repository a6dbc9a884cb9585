theorem cv_X12_157 : CWV RX12 157 RX12 yX12_treaty cX12_treaty 8 (some (.int)) 6 := ⟨cd_X12_treaty, im_X12_treaty, se_X12_X12_treaty_X12_treaty, in_X12, ml_X12_157, by decide +kernel⟩
theorem cv_X12_161 : CWV RX12 161 RX12 yX12_coast cX12_coast 3 (some (.int)) 1 := ⟨cd_X12_coast, im_X12_coast, se_X12_X12_coast_X12_coast, in_X12, ml_X12_161, by decide +kernel⟩
theorem cv_X12_164 : CWV RX12 164 RX12 yX12_cell cX12_cell 5 (some (.int)) 4 := ⟨cd_X12_cell, im_X12_cell, se_X12_X12_cell_X12_cell, in_X12, ml_X12_164, by decide +kernel⟩
theorem cv_X12_168 : CWV RX12 168 RX12 yX12_dike cX12_dike 3 (some (.int)) 2 := ⟨cd_X12_dike, im_X12_dike, se_X12_X12_dike_X12_dike, in_X12, ml_X12_168, by decide +kernel⟩
theorem cv_X12_171 : CWV RX12 171 RX12 yX12_want cX12_want 3 (some (.int)) 2 := ⟨cd_X12_want, im_X12_want, se_X12_X12_want_X12_want, in_X12, ml_X12_171, by decide +kernel⟩
theorem cv_X12_174 : CWV RX12 174 RX12 yX12_moon cX12_moon 2 (some (.int)) 1 := ⟨cd_X12_moon, im_X12_moon, se_X12_X12_moon_X12_moon, in_X12, ml_X12_174, by decide +kernel⟩
set_option maxHeartbeats 4000000 in
set_option maxRecDepth 100000 in
theorem c_X12_tellsItem (Γ : GG) (l : Launch) (m : Nat → Nat) (M : MoV) (b : Nat → Int32) (C : CoV) (tr : Nat → TrV) (Y : YrV) (pc : Nat) (P : Nat → YrV) (f : Nat → Int32) (T : Nat → Int32) (i : Nat) (w : Nat) (v : Nat → Int32) (hr : Rel b C tr Y pc P) (hA0 : IA C tr Y) (hq : M.1 = true) (hi7 : 7 * i + 7 ≤ 350) (hw6 : w < 6) (hw : T (7 * i) = nI w) (hv : ∀ k, k < nbN w → T (7 * i + 1 + k) = v k) : Ci Γ l yX12_tellsItem cX12_tellsItem 8 (some (.boolean)) 3 75 0 0 [.ref (m 0), .int (nI i)] [bMo Γ m M, bA Γ (m 1) 259 b, bA Γ (m 6) 3 f, bA Γ (m 8) 350 T] (fun (r : Int32) (u : (Nat → Int32) × (Nat → Int32)) => tmP f P w v (C, tr, Y) r u) (fun (u : (Nat → Int32) × (Nat → Int32)) => [bMo Γ m M, bA Γ (m 1) 259 u.1, bA Γ (m 6) 3 u.2, bA Γ (m 8) 350 T]) := by
  refine Ci.of (Or.inr rfl) (by decide) (Nat.le_of_ble_eq_true rfl) ?_
  intro pp ee ss mm bb me cd AA QQ XX hnm hA hP hD fin ls hl
  obtain ⟨zx, zb, hml, hown, hts, hK⟩ := id XX
  have hS : va_S AA ss.heap ss.heap [] := va_S.rf
  have hl : lv_has ls 8 [(0, .ref (m 0)), (1, .int (nI i))] := hl
  have hI := hA0.1
  have htc := inv_tc hI
  have hdc := inv_dc hI
  have hn := inv_n hI
  refine lv_bipush (v := nI 7) zx zb dX12_tellsItem_0 (by decide) ?_
  refine lv_iload_n zx zb dX12_tellsItem_2 rfl (lv_at hl 1 rfl) ?_
  refine lv_imul zx zb dX12_tellsItem_3 ?_
  refine g_top (y := nI (7 * i)) (pk_mul 7 i) ?_
  refine lv_istore_n (lv' := [(2, .int (nI (7 * i))), (0, .ref (m 0)), (1, .int (nI i))]) zx zb dX12_tellsItem_4 rfl hl (by decide) rfl (fun ls hl => ?_)
  refine lv_aload_n zx zb dX12_tellsItem_5 rfl (lv_at hl 1 rfl) ?_
  refine g_get (v := .ref (m 8)) XX hP 0 0 rfl rfl rfl iwX12 13 (by decide) fl_X12_32 rfl dX12_tellsItem_6 ?_
  refine lv_iload_n zx zb dX12_tellsItem_9 rfl (lv_at hl 0 rfl) ?_
  refine g_ialdN (i := 7 * i) XX hP 3 0 rfl rfl (by omega) (by decide) dX12_tellsItem_10 ?_
  refine g_top (y := nI w) (hw) ?_
  refine lv_istore_n (lv' := [(3, .int (nI w)), (2, .int (nI (7 * i))), (0, .ref (m 0)), (1, .int (nI i))]) zx zb dX12_tellsItem_11 rfl hl (by decide) rfl (fun ls hl => ?_)
  refine lv_aload_n zx zb dX12_tellsItem_12 rfl (lv_at hl 2 rfl) ?_
  refine g_get (v := .ref (m 8)) XX hP 0 0 rfl rfl rfl iwX12 13 (by decide) fl_X12_32 rfl dX12_tellsItem_13 ?_
  refine lv_iload_n zx zb dX12_tellsItem_16 rfl (lv_at hl 1 rfl) ?_
  refine lv_iconst (v := nI 1) zx zb dX12_tellsItem_17 (by decide) ?_
  refine lv_iadd zx zb dX12_tellsItem_18 ?_
  refine g_top (y := nI (7 * i + 1)) (nI_add (7 * i) 1) ?_
  refine g_ialdN (i := 7 * i + 1) XX hP 3 0 rfl rfl (by omega) (by decide) dX12_tellsItem_19 ?_
  refine lv_istore (lv' := [(4, .int (T (7 * i + 1))), (3, .int (nI w)), (2, .int (nI (7 * i))), (0, .ref (m 0)), (1, .int (nI i))]) zx zb dX12_tellsItem_20 hl (by decide) rfl (fun ls hl => ?_)
  refine lv_aload_n zx zb dX12_tellsItem_22 rfl (lv_at hl 3 rfl) ?_
  refine g_get (v := .ref (m 8)) XX hP 0 0 rfl rfl rfl iwX12 13 (by decide) fl_X12_32 rfl dX12_tellsItem_23 ?_
  refine lv_iload_n zx zb dX12_tellsItem_26 rfl (lv_at hl 2 rfl) ?_
  refine lv_iconst (v := nI 2) zx zb dX12_tellsItem_27 (by decide) ?_
  refine lv_iadd zx zb dX12_tellsItem_28 ?_
  refine g_top (y := nI (7 * i + 2)) (nI_add (7 * i) 2) ?_
  refine g_ialdN (i := 7 * i + 2) XX hP 3 0 rfl rfl (by omega) (by decide) dX12_tellsItem_29 ?_
  refine lv_istore (lv' := [(5, .int (T (7 * i + 2))), (4, .int (T (7 * i + 1))), (3, .int (nI w)), (2, .int (nI (7 * i))), (0, .ref (m 0)), (1, .int (nI i))]) zx zb dX12_tellsItem_30 hl (by decide) rfl (fun ls hl => ?_)
  have hw0 := hw
  rcases (show w = 0 ∨ w = 1 ∨ w = 2 ∨ w = 3 ∨ w = 4 ∨ w = 5 by omega) with hsp | hsp | hsp | hsp | hsp | hsp
  · subst hsp
    refine lv_iload_n zx zb dX12_tellsItem_32 rfl (lv_at hl 2 rfl) ?_
    refine lv_iconst (v := nI 5) zx zb dX12_tellsItem_33 (by decide) ?_
    refine lv_icmp_ne (tgt := 87) zx zb dX12_tellsItem_34 (by decide) (fun c_34 => ?_) (fun c_34 => ?_)
    · clear c_34
      refine lv_iload_n zx zb dX12_tellsItem_87 rfl (lv_at hl 2 rfl) ?_
      refine lv_if_ne (tgt := 100) zx zb dX12_tellsItem_88 (by decide) (fun c_88 => ?_) (fun c_88 => ?_)
      · exact absurd c_88 (by decide)
      · clear c_88
        refine lv_aload_n zx zb dX12_tellsItem_91 rfl (lv_at hl 4 rfl) ?_
        refine lv_iload zx zb dX12_tellsItem_92 (lv_at hl 1 rfl) ?_
        refine call_Vi (As := [.int (T (7 * i + 1))]) (rest := []) XX cv_X12_161 (c_X12_coast Γ l m M b C tr Y pc P f (T (7 * i + 1)) (hr) (hI)) hP hD hS hA [0, 1, 2] (by decide) rfl (fun _ => rfl) 0 0 rfl rfl rfl rfl hl.1 rfl ⟨⟨by decide, by decide⟩, by decide, by decide⟩ (Nat.le_of_ble_eq_true rfl) dX12_tellsItem_94 (fun r_94 u H locs hw hP hD hS => ?_)
        obtain ⟨u_94, rfl⟩ : ∃ z, z = u := ⟨_, rfl⟩
        have w_94 := hw
        have hP : bP Γ [bMo Γ m M, bA Γ (m 1) 259 u_94.1, bA Γ (m 6) 3 u_94.2, bA Γ (m 8) 350 T] H := hP
        have hD : bD AA [bMo Γ m M, bA Γ (m 1) 259 u_94.1, bA Γ (m 6) 3 u_94.2, bA Γ (m 8) 350 T] := hD
        refine lv_goto (tgt := 133) zx zb dX12_tellsItem_97 (by decide) ?_
        refine lv_istore (lv' := [(6, .int r_94), (5, .int (T (7 * i + 2))), (4, .int (T (7 * i + 1))), (3, .int (nI 0)), (2, .int (nI (7 * i))), (0, .ref (m 0)), (1, .int (nI i))]) zx zb dX12_tellsItem_133 hl (by decide) rfl (fun ls hl => ?_)
        refine lv_iload_n zx zb dX12_tellsItem_135 rfl (lv_at hl 3 rfl) ?_
        refine lv_iconst (v := nI 2) zx zb dX12_tellsItem_136 (by decide) ?_
        refine lv_icmp_ne (tgt := 151) zx zb dX12_tellsItem_137 (by decide) (fun c_137 => ?_) (fun c_137 => ?_)
        · clear c_137
          refine lv_iload_n zx zb dX12_tellsItem_151 rfl (lv_at hl 3 rfl) ?_
          refine lv_iconst (v := nI 3) zx zb dX12_tellsItem_152 (by decide) ?_
          refine lv_icmp_ne (tgt := 167) zx zb dX12_tellsItem_153 (by decide) (fun c_153 => ?_) (fun c_153 => ?_)
          · clear c_153
            refine lv_iload_n zx zb dX12_tellsItem_167 rfl (lv_at hl 3 rfl) ?_
            refine lv_iconst (v := nI 4) zx zb dX12_tellsItem_168 (by decide) ?_
            refine lv_icmp_ne (tgt := 181) zx zb dX12_tellsItem_169 (by decide) (fun c_169 => ?_) (fun c_169 => ?_)
            · clear c_169
              refine lv_iconst (v := nI 0) zx zb dX12_tellsItem_181 (by decide) ?_
              refine lv_istore (lv' := [(7, .int (nI 0)), (6, .int r_94), (5, .int (T (7 * i + 2))), (4, .int (T (7 * i + 1))), (3, .int (nI 0)), (2, .int (nI (7 * i))), (0, .ref (m 0)), (1, .int (nI i))]) zx zb dX12_tellsItem_182 hl (by decide) rfl (fun ls hl => ?_)
              refine lv_iload zx zb dX12_tellsItem_184 (lv_at hl 1 rfl) ?_
              refine lv_if_lt (tgt := 198) zx zb dX12_tellsItem_186 (by decide) (fun c_186 => ?_) (fun c_186 => ?_)
              · have c_186 : r_94 < (0 : Int32) := c_186
                refine lv_iconst (v := nI 0) zx zb dX12_tellsItem_198 (by decide) ?_
                exact fin _ _ (nI 0) (u_94.1, u_94.2) 199 _ dX12_tellsItem_199 (fun _ => nar0) (by have e0 : T (7 * i + 1) = v 0 := hv 0 (by decide); exact tm_g (X := (C, tr, Y)) (Z := ((tCo (v 0) C Y).1, tr, (tCo (v 0) C Y).2)) (r1 := r_94) (R := tCoR (v 0) C) (by have z9 := w_94.1; rw [e0] at z9; exact z9) rfl rfl (sg_co hA0) (okP_t) (by have z9 := w_94.2.1; rw [e0] at z9; exact z9) (w_94.2.2.trans (moVq hq)) (by first | exact Or.inl ⟨c_186, rfl⟩ | exact Or.inr ⟨c_186, rfl⟩)) hP hD hS
              · have c_186 : ¬ (r_94 < (0 : Int32)) := c_186
                refine lv_iload zx zb dX12_tellsItem_189 (lv_at hl 0 rfl) ?_
                refine lv_if_lt (tgt := 198) zx zb dX12_tellsItem_191 (by decide) (fun c_191 => ?_) (fun c_191 => ?_)
                · exact absurd c_191 (by decide)
                · clear c_191
                  refine lv_iconst (v := nI 1) zx zb dX12_tellsItem_194 (by decide) ?_
                  refine lv_goto (tgt := 199) zx zb dX12_tellsItem_195 (by decide) ?_
                  exact fin _ _ (nI 1) (u_94.1, u_94.2) 199 _ dX12_tellsItem_199 (fun _ => nar1) (by have e0 : T (7 * i + 1) = v 0 := hv 0 (by decide); exact tm_g (X := (C, tr, Y)) (Z := ((tCo (v 0) C Y).1, tr, (tCo (v 0) C Y).2)) (r1 := r_94) (R := tCoR (v 0) C) (by have z9 := w_94.1; rw [e0] at z9; exact z9) rfl rfl (sg_co hA0) (okP_t) (by have z9 := w_94.2.1; rw [e0] at z9; exact z9) (w_94.2.2.trans (moVq hq)) (by first | exact Or.inl ⟨c_186, rfl⟩ | exact Or.inr ⟨c_186, rfl⟩)) hP hD hS
            · exact absurd c_169 (by decide)
          · exact absurd c_153 (by decide)
        · exact absurd c_137 (by decide)
    · exact absurd c_34 (by decide)
  · subst hsp
    refine lv_iload_n zx zb dX12_tellsItem_32 rfl (lv_at hl 2 rfl) ?_
    refine lv_iconst (v := nI 5) zx zb dX12_tellsItem_33 (by decide) ?_
    refine lv_icmp_ne (tgt := 87) zx zb dX12_tellsItem_34 (by decide) (fun c_34 => ?_) (fun c_34 => ?_)
    · clear c_34
      refine lv_iload_n zx zb dX12_tellsItem_87 rfl (lv_at hl 2 rfl) ?_
      refine lv_if_ne (tgt := 100) zx zb dX12_tellsItem_88 (by decide) (fun c_88 => ?_) (fun c_88 => ?_)
      · clear c_88
        refine lv_iload_n zx zb dX12_tellsItem_100 rfl (lv_at hl 2 rfl) ?_
        refine lv_iconst (v := nI 1) zx zb dX12_tellsItem_101 (by decide) ?_
        refine lv_icmp_ne (tgt := 132) zx zb dX12_tellsItem_102 (by decide) (fun c_102 => ?_) (fun c_102 => ?_)
        · exact absurd c_102 (by decide)
        · clear c_102
          refine lv_aload_n zx zb dX12_tellsItem_105 rfl (lv_at hl 4 rfl) ?_
          refine lv_iload zx zb dX12_tellsItem_106 (lv_at hl 1 rfl) ?_
          refine lv_iload zx zb dX12_tellsItem_108 (lv_at hl 0 rfl) ?_
          refine lv_aload_n zx zb dX12_tellsItem_110 rfl (lv_at hl 4 rfl) ?_
          refine g_get (v := .ref (m 8)) XX hP 0 0 rfl rfl rfl iwX12 13 (by decide) fl_X12_32 rfl dX12_tellsItem_111 ?_
          refine lv_iload_n zx zb dX12_tellsItem_114 rfl (lv_at hl 3 rfl) ?_
          refine lv_iconst (v := nI 3) zx zb dX12_tellsItem_115 (by decide) ?_
          refine lv_iadd zx zb dX12_tellsItem_116 ?_
          refine g_top (y := nI (7 * i + 3)) (nI_add (7 * i) 3) ?_
          refine g_ialdN (i := 7 * i + 3) XX hP 3 0 rfl rfl (by omega) (by decide) dX12_tellsItem_117 ?_
          refine lv_aload_n zx zb dX12_tellsItem_118 rfl (lv_at hl 4 rfl) ?_
          refine g_get (v := .ref (m 8)) XX hP 0 0 rfl rfl rfl iwX12 13 (by decide) fl_X12_32 rfl dX12_tellsItem_119 ?_
          refine lv_iload_n zx zb dX12_tellsItem_122 rfl (lv_at hl 3 rfl) ?_
          refine lv_iconst (v := nI 4) zx zb dX12_tellsItem_123 (by decide) ?_
          refine lv_iadd zx zb dX12_tellsItem_124 ?_
          refine g_top (y := nI (7 * i + 4)) (nI_add (7 * i) 4) ?_
          refine g_ialdN (i := 7 * i + 4) XX hP 3 0 rfl rfl (by omega) (by decide) dX12_tellsItem_125 ?_
          refine call_Vi (As := [.int (T (7 * i + 1)), .int (T (7 * i + 2)), .int (T (7 * i + 3)), .int (T (7 * i + 4))]) (rest := []) XX cv_X12_164 (c_X12_cell Γ l m M b C tr Y pc P f (T (7 * i + 1)) (T (7 * i + 2)) (T (7 * i + 3)) (T (7 * i + 4)) (hr) (hI)) hP hD hS hA [0, 1, 2] (by decide) rfl (fun _ => rfl) 0 0 rfl rfl rfl rfl hl.1 rfl ⟨⟨by decide, by decide⟩, by decide, by decide⟩ (Nat.le_of_ble_eq_true rfl) dX12_tellsItem_126 (fun r_126 u H locs hw hP hD hS => ?_)
          obtain ⟨u_126, rfl⟩ : ∃ z, z = u := ⟨_, rfl⟩
          have w_126 := hw
          have hP : bP Γ [bMo Γ m M, bA Γ (m 1) 259 u_126.1, bA Γ (m 6) 3 u_126.2, bA Γ (m 8) 350 T] H := hP
          have hD : bD AA [bMo Γ m M, bA Γ (m 1) 259 u_126.1, bA Γ (m 6) 3 u_126.2, bA Γ (m 8) 350 T] := hD
          refine lv_goto (tgt := 133) zx zb dX12_tellsItem_129 (by decide) ?_
          refine lv_istore (lv' := [(6, .int r_126), (5, .int (T (7 * i + 2))), (4, .int (T (7 * i + 1))), (3, .int (nI 1)), (2, .int (nI (7 * i))), (0, .ref (m 0)), (1, .int (nI i))]) zx zb dX12_tellsItem_133 hl (by decide) rfl (fun ls hl => ?_)
          refine lv_iload_n zx zb dX12_tellsItem_135 rfl (lv_at hl 3 rfl) ?_
          refine lv_iconst (v := nI 2) zx zb dX12_tellsItem_136 (by decide) ?_
          refine lv_icmp_ne (tgt := 151) zx zb dX12_tellsItem_137 (by decide) (fun c_137 => ?_) (fun c_137 => ?_)
          · clear c_137
            refine lv_iload_n zx zb dX12_tellsItem_151 rfl (lv_at hl 3 rfl) ?_
            refine lv_iconst (v := nI 3) zx zb dX12_tellsItem_152 (by decide) ?_
            refine lv_icmp_ne (tgt := 167) zx zb dX12_tellsItem_153 (by decide) (fun c_153 => ?_) (fun c_153 => ?_)
            · clear c_153
              refine lv_iload_n zx zb dX12_tellsItem_167 rfl (lv_at hl 3 rfl) ?_
              refine lv_iconst (v := nI 4) zx zb dX12_tellsItem_168 (by decide) ?_
              refine lv_icmp_ne (tgt := 181) zx zb dX12_tellsItem_169 (by decide) (fun c_169 => ?_) (fun c_169 => ?_)
              · clear c_169
                refine lv_iconst (v := nI 0) zx zb dX12_tellsItem_181 (by decide) ?_
                refine lv_istore (lv' := [(7, .int (nI 0)), (6, .int r_126), (5, .int (T (7 * i + 2))), (4, .int (T (7 * i + 1))), (3, .int (nI 1)), (2, .int (nI (7 * i))), (0, .ref (m 0)), (1, .int (nI i))]) zx zb dX12_tellsItem_182 hl (by decide) rfl (fun ls hl => ?_)
                refine lv_iload zx zb dX12_tellsItem_184 (lv_at hl 1 rfl) ?_
                refine lv_if_lt (tgt := 198) zx zb dX12_tellsItem_186 (by decide) (fun c_186 => ?_) (fun c_186 => ?_)
                · have c_186 : r_126 < (0 : Int32) := c_186
                  refine lv_iconst (v := nI 0) zx zb dX12_tellsItem_198 (by decide) ?_
                  exact fin _ _ (nI 0) (u_126.1, u_126.2) 199 _ dX12_tellsItem_199 (fun _ => nar0) (by have e0 : T (7 * i + 1) = v 0 := hv 0 (by decide); have e1 : T (7 * i + 2) = v 1 := hv 1 (by decide); have e2 : T (7 * i + 3) = v 2 := hv 2 (by decide); have e3 : T (7 * i + 4) = v 3 := hv 3 (by decide); exact tm_g (X := (C, tr, Y)) (Z := ((tCe C Y (v 0) (v 1) (v 2) (v 3)).1, tr, (tCe C Y (v 0) (v 1) (v 2) (v 3)).2)) (r1 := r_126) (R := tCeR C (v 0) (v 1) (v 2) (v 3)) (by have z9 := w_126.1; rw [e0, e1, e2, e3] at z9; exact z9) rfl rfl (sg_ce hA0) (okP_t) (by have z9 := w_126.2.1; rw [e0, e1, e2, e3] at z9; exact z9) (w_126.2.2.trans (moVq hq)) (by first | exact Or.inl ⟨c_186, rfl⟩ | exact Or.inr ⟨c_186, rfl⟩)) hP hD hS
                · have c_186 : ¬ (r_126 < (0 : Int32)) := c_186
                  refine lv_iload zx zb dX12_tellsItem_189 (lv_at hl 0 rfl) ?_
                  refine lv_if_lt (tgt := 198) zx zb dX12_tellsItem_191 (by decide) (fun c_191 => ?_) (fun c_191 => ?_)
                  · exact absurd c_191 (by decide)
                  · clear c_191
                    refine lv_iconst (v := nI 1) zx zb dX12_tellsItem_194 (by decide) ?_
                    refine lv_goto (tgt := 199) zx zb dX12_tellsItem_195 (by decide) ?_
                    exact fin _ _ (nI 1) (u_126.1, u_126.2) 199 _ dX12_tellsItem_199 (fun _ => nar1) (by have e0 : T (7 * i + 1) = v 0 := hv 0 (by decide); have e1 : T (7 * i + 2) = v 1 := hv 1 (by decide); have e2 : T (7 * i + 3) = v 2 := hv 2 (by decide); have e3 : T (7 * i + 4) = v 3 := hv 3 (by decide); exact tm_g (X := (C, tr, Y)) (Z := ((tCe C Y (v 0) (v 1) (v 2) (v 3)).1, tr, (tCe C Y (v 0) (v 1) (v 2) (v 3)).2)) (r1 := r_126) (R := tCeR C (v 0) (v 1) (v 2) (v 3)) (by have z9 := w_126.1; rw [e0, e1, e2, e3] at z9; exact z9) rfl rfl (sg_ce hA0) (okP_t) (by have z9 := w_126.2.1; rw [e0, e1, e2, e3] at z9; exact z9) (w_126.2.2.trans (moVq hq)) (by first | exact Or.inl ⟨c_186, rfl⟩ | exact Or.inr ⟨c_186, rfl⟩)) hP hD hS
              · exact absurd c_169 (by decide)
            · exact absurd c_153 (by decide)
          · exact absurd c_137 (by decide)
      · exact absurd c_88 (by decide)
    · exact absurd c_34 (by decide)
  · subst hsp
    refine lv_iload_n zx zb dX12_tellsItem_32 rfl (lv_at hl 2 rfl) ?_
    refine lv_iconst (v := nI 5) zx zb dX12_tellsItem_33 (by decide) ?_
    refine lv_icmp_ne (tgt := 87) zx zb dX12_tellsItem_34 (by decide) (fun c_34 => ?_) (fun c_34 => ?_)
    · clear c_34
      refine lv_iload_n zx zb dX12_tellsItem_87 rfl (lv_at hl 2 rfl) ?_
      refine lv_if_ne (tgt := 100) zx zb dX12_tellsItem_88 (by decide) (fun c_88 => ?_) (fun c_88 => ?_)
      · clear c_88
        refine lv_iload_n zx zb dX12_tellsItem_100 rfl (lv_at hl 2 rfl) ?_
        refine lv_iconst (v := nI 1) zx zb dX12_tellsItem_101 (by decide) ?_
        refine lv_icmp_ne (tgt := 132) zx zb dX12_tellsItem_102 (by decide) (fun c_102 => ?_) (fun c_102 => ?_)
        · clear c_102
          refine lv_iconst (v := nI 0) zx zb dX12_tellsItem_132 (by decide) ?_
          refine lv_istore (lv' := [(6, .int (nI 0)), (5, .int (T (7 * i + 2))), (4, .int (T (7 * i + 1))), (3, .int (nI 2)), (2, .int (nI (7 * i))), (0, .ref (m 0)), (1, .int (nI i))]) zx zb dX12_tellsItem_133 hl (by decide) rfl (fun ls hl => ?_)
          refine lv_iload_n zx zb dX12_tellsItem_135 rfl (lv_at hl 3 rfl) ?_
          refine lv_iconst (v := nI 2) zx zb dX12_tellsItem_136 (by decide) ?_
          refine lv_icmp_ne (tgt := 151) zx zb dX12_tellsItem_137 (by decide) (fun c_137 => ?_) (fun c_137 => ?_)
          · exact absurd c_137 (by decide)
          · clear c_137
            refine lv_aload_n zx zb dX12_tellsItem_140 rfl (lv_at hl 5 rfl) ?_
            refine lv_iload zx zb dX12_tellsItem_141 (lv_at hl 2 rfl) ?_
            refine lv_iload zx zb dX12_tellsItem_143 (lv_at hl 1 rfl) ?_
            refine call_Vi (As := [.int (T (7 * i + 1)), .int (T (7 * i + 2))]) (rest := []) XX cv_X12_168 (c_X12_dike Γ l m M b C tr Y pc P f (T (7 * i + 1)) (T (7 * i + 2)) (hr) (hI)) hP hD hS hA [0, 1, 2] (by decide) rfl (fun _ => rfl) 0 0 rfl rfl rfl rfl hl.1 rfl ⟨⟨by decide, by decide⟩, by decide, by decide⟩ (Nat.le_of_ble_eq_true rfl) dX12_tellsItem_145 (fun r_145 u H locs hw hP hD hS => ?_)
            obtain ⟨u_145, rfl⟩ : ∃ z, z = u := ⟨_, rfl⟩
            have w_145 := hw
            have hP : bP Γ [bMo Γ m M, bA Γ (m 1) 259 u_145.1, bA Γ (m 6) 3 u_145.2, bA Γ (m 8) 350 T] H := hP
            have hD : bD AA [bMo Γ m M, bA Γ (m 1) 259 u_145.1, bA Γ (m 6) 3 u_145.2, bA Γ (m 8) 350 T] := hD
            refine lv_goto (tgt := 182) zx zb dX12_tellsItem_148 (by decide) ?_
            refine lv_istore (lv' := [(7, .int r_145), (6, .int (nI 0)), (5, .int (T (7 * i + 2))), (4, .int (T (7 * i + 1))), (3, .int (nI 2)), (2, .int (nI (7 * i))), (0, .ref (m 0)), (1, .int (nI i))]) zx zb dX12_tellsItem_182 hl (by decide) rfl (fun ls hl => ?_)
            refine lv_iload zx zb dX12_tellsItem_184 (lv_at hl 1 rfl) ?_
            refine lv_if_lt (tgt := 198) zx zb dX12_tellsItem_186 (by decide) (fun c_186 => ?_) (fun c_186 => ?_)
            · exact absurd c_186 (by decide)
            · clear c_186
              refine lv_iload zx zb dX12_tellsItem_189 (lv_at hl 0 rfl) ?_
              refine lv_if_lt (tgt := 198) zx zb dX12_tellsItem_191 (by decide) (fun c_191 => ?_) (fun c_191 => ?_)
              · have c_191 : r_145 < (0 : Int32) := c_191
                refine lv_iconst (v := nI 0) zx zb dX12_tellsItem_198 (by decide) ?_
                exact fin _ _ (nI 0) (u_145.1, u_145.2) 199 _ dX12_tellsItem_199 (fun _ => nar0) (by have e0 : T (7 * i + 1) = v 0 := hv 0 (by decide); have e1 : T (7 * i + 2) = v 1 := hv 1 (by decide); exact tm_g (X := (C, tr, Y)) (Z := (C, tr, tDi C Y (v 0) (v 1))) (r1 := r_145) (R := tDiR C Y (v 0) (v 1)) (by have z9 := w_145.1; rw [e0, e1] at z9; exact z9) rfl rfl (sg_di hA0) (okP_t) (by have z9 := w_145.2.1; rw [e0, e1] at z9; exact z9) (w_145.2.2.trans (moVq hq)) (by first | exact Or.inl ⟨c_191, rfl⟩ | exact Or.inr ⟨c_191, rfl⟩)) hP hD hS
              · have c_191 : ¬ (r_145 < (0 : Int32)) := c_191
                refine lv_iconst (v := nI 1) zx zb dX12_tellsItem_194 (by decide) ?_
                refine lv_goto (tgt := 199) zx zb dX12_tellsItem_195 (by decide) ?_
                exact fin _ _ (nI 1) (u_145.1, u_145.2) 199 _ dX12_tellsItem_199 (fun _ => nar1) (by have e0 : T (7 * i + 1) = v 0 := hv 0 (by decide); have e1 : T (7 * i + 2) = v 1 := hv 1 (by decide); exact tm_g (X := (C, tr, Y)) (Z := (C, tr, tDi C Y (v 0) (v 1))) (r1 := r_145) (R := tDiR C Y (v 0) (v 1)) (by have z9 := w_145.1; rw [e0, e1] at z9; exact z9) rfl rfl (sg_di hA0) (okP_t) (by have z9 := w_145.2.1; rw [e0, e1] at z9; exact z9) (w_145.2.2.trans (moVq hq)) (by first | exact Or.inl ⟨c_191, rfl⟩ | exact Or.inr ⟨c_191, rfl⟩)) hP hD hS
        · exact absurd c_102 (by decide)
      · exact absurd c_88 (by decide)
    · exact absurd c_34 (by decide)
  · subst hsp
    refine lv_iload_n zx zb dX12_tellsItem_32 rfl (lv_at hl 2 rfl) ?_
    refine lv_iconst (v := nI 5) zx zb dX12_tellsItem_33 (by decide) ?_
    refine lv_icmp_ne (tgt := 87) zx zb dX12_tellsItem_34 (by decide) (fun c_34 => ?_) (fun c_34 => ?_)
    · clear c_34
      refine lv_iload_n zx zb dX12_tellsItem_87 rfl (lv_at hl 2 rfl) ?_
      refine lv_if_ne (tgt := 100) zx zb dX12_tellsItem_88 (by decide) (fun c_88 => ?_) (fun c_88 => ?_)
      · clear c_88
        refine lv_iload_n zx zb dX12_tellsItem_100 rfl (lv_at hl 2 rfl) ?_
        refine lv_iconst (v := nI 1) zx zb dX12_tellsItem_101 (by decide) ?_
        refine lv_icmp_ne (tgt := 132) zx zb dX12_tellsItem_102 (by decide) (fun c_102 => ?_) (fun c_102 => ?_)
        · clear c_102
          refine lv_iconst (v := nI 0) zx zb dX12_tellsItem_132 (by decide) ?_
          refine lv_istore (lv' := [(6, .int (nI 0)), (5, .int (T (7 * i + 2))), (4, .int (T (7 * i + 1))), (3, .int (nI 3)), (2, .int (nI (7 * i))), (0, .ref (m 0)), (1, .int (nI i))]) zx zb dX12_tellsItem_133 hl (by decide) rfl (fun ls hl => ?_)
          refine lv_iload_n zx zb dX12_tellsItem_135 rfl (lv_at hl 3 rfl) ?_
          refine lv_iconst (v := nI 2) zx zb dX12_tellsItem_136 (by decide) ?_
          refine lv_icmp_ne (tgt := 151) zx zb dX12_tellsItem_137 (by decide) (fun c_137 => ?_) (fun c_137 => ?_)
          · clear c_137
            refine lv_iload_n zx zb dX12_tellsItem_151 rfl (lv_at hl 3 rfl) ?_
            refine lv_iconst (v := nI 3) zx zb dX12_tellsItem_152 (by decide) ?_
            refine lv_icmp_ne (tgt := 167) zx zb dX12_tellsItem_153 (by decide) (fun c_153 => ?_) (fun c_153 => ?_)
            · exact absurd c_153 (by decide)
            · clear c_153
              refine lv_aload_n zx zb dX12_tellsItem_156 rfl (lv_at hl 5 rfl) ?_
              refine lv_iload zx zb dX12_tellsItem_157 (lv_at hl 2 rfl) ?_
              refine lv_iload zx zb dX12_tellsItem_159 (lv_at hl 1 rfl) ?_
              refine call_Vi (As := [.int (T (7 * i + 1)), .int (T (7 * i + 2))]) (rest := []) XX cv_X12_171 (c_X12_want Γ l m M b C tr Y pc P f (T (7 * i + 1)) (T (7 * i + 2)) (hr) (hI)) hP hD hS hA [0, 1, 2] (by decide) rfl (fun _ => rfl) 0 0 rfl rfl rfl rfl hl.1 rfl ⟨⟨by decide, by decide⟩, by decide, by decide⟩ (Nat.le_of_ble_eq_true rfl) dX12_tellsItem_161 (fun r_161 u H locs hw hP hD hS => ?_)
              obtain ⟨u_161, rfl⟩ : ∃ z, z = u := ⟨_, rfl⟩
              have w_161 := hw
              have hP : bP Γ [bMo Γ m M, bA Γ (m 1) 259 u_161.1, bA Γ (m 6) 3 u_161.2, bA Γ (m 8) 350 T] H := hP
              have hD : bD AA [bMo Γ m M, bA Γ (m 1) 259 u_161.1, bA Γ (m 6) 3 u_161.2, bA Γ (m 8) 350 T] := hD
              refine lv_goto (tgt := 182) zx zb dX12_tellsItem_164 (by decide) ?_
              refine lv_istore (lv' := [(7, .int r_161), (6, .int (nI 0)), (5, .int (T (7 * i + 2))), (4, .int (T (7 * i + 1))), (3, .int (nI 3)), (2, .int (nI (7 * i))), (0, .ref (m 0)), (1, .int (nI i))]) zx zb dX12_tellsItem_182 hl (by decide) rfl (fun ls hl => ?_)
              refine lv_iload zx zb dX12_tellsItem_184 (lv_at hl 1 rfl) ?_
              refine lv_if_lt (tgt := 198) zx zb dX12_tellsItem_186 (by decide) (fun c_186 => ?_) (fun c_186 => ?_)
              · exact absurd c_186 (by decide)
              · clear c_186
                refine lv_iload zx zb dX12_tellsItem_189 (lv_at hl 0 rfl) ?_
                refine lv_if_lt (tgt := 198) zx zb dX12_tellsItem_191 (by decide) (fun c_191 => ?_) (fun c_191 => ?_)
                · have c_191 : r_161 < (0 : Int32) := c_191
                  refine lv_iconst (v := nI 0) zx zb dX12_tellsItem_198 (by decide) ?_
                  exact fin _ _ (nI 0) (u_161.1, u_161.2) 199 _ dX12_tellsItem_199 (fun _ => nar0) (by have e0 : T (7 * i + 1) = v 0 := hv 0 (by decide); have e1 : T (7 * i + 2) = v 1 := hv 1 (by decide); exact tm_g (X := (C, tr, Y)) (Z := (tWa C (v 0) (v 1), tr, Y)) (r1 := r_161) (R := tWaR C (v 0) (v 1)) (by have z9 := w_161.1; rw [e0, e1] at z9; exact z9) rfl rfl (sg_wa hA0) (okP_t) (by have z9 := w_161.2.1; rw [e0, e1] at z9; exact z9) (w_161.2.2.trans (moVq hq)) (by first | exact Or.inl ⟨c_191, rfl⟩ | exact Or.inr ⟨c_191, rfl⟩)) hP hD hS
                · have c_191 : ¬ (r_161 < (0 : Int32)) := c_191
                  refine lv_iconst (v := nI 1) zx zb dX12_tellsItem_194 (by decide) ?_
                  refine lv_goto (tgt := 199) zx zb dX12_tellsItem_195 (by decide) ?_
                  exact fin _ _ (nI 1) (u_161.1, u_161.2) 199 _ dX12_tellsItem_199 (fun _ => nar1) (by have e0 : T (7 * i + 1) = v 0 := hv 0 (by decide); have e1 : T (7 * i + 2) = v 1 := hv 1 (by decide); exact tm_g (X := (C, tr, Y)) (Z := (tWa C (v 0) (v 1), tr, Y)) (r1 := r_161) (R := tWaR C (v 0) (v 1)) (by have z9 := w_161.1; rw [e0, e1] at z9; exact z9) rfl rfl (sg_wa hA0) (okP_t) (by have z9 := w_161.2.1; rw [e0, e1] at z9; exact z9) (w_161.2.2.trans (moVq hq)) (by first | exact Or.inl ⟨c_191, rfl⟩ | exact Or.inr ⟨c_191, rfl⟩)) hP hD hS
          · exact absurd c_137 (by decide)
        · exact absurd c_102 (by decide)
      · exact absurd c_88 (by decide)
    · exact absurd c_34 (by decide)
  · subst hsp
    refine lv_iload_n zx zb dX12_tellsItem_32 rfl (lv_at hl 2 rfl) ?_
    refine lv_iconst (v := nI 5) zx zb dX12_tellsItem_33 (by decide) ?_
    refine lv_icmp_ne (tgt := 87) zx zb dX12_tellsItem_34 (by decide) (fun c_34 => ?_) (fun c_34 => ?_)
    · clear c_34
      refine lv_iload_n zx zb dX12_tellsItem_87 rfl (lv_at hl 2 rfl) ?_
      refine lv_if_ne (tgt := 100) zx zb dX12_tellsItem_88 (by decide) (fun c_88 => ?_) (fun c_88 => ?_)
      · clear c_88
        refine lv_iload_n zx zb dX12_tellsItem_100 rfl (lv_at hl 2 rfl) ?_
        refine lv_iconst (v := nI 1) zx zb dX12_tellsItem_101 (by decide) ?_
        refine lv_icmp_ne (tgt := 132) zx zb dX12_tellsItem_102 (by decide) (fun c_102 => ?_) (fun c_102 => ?_)
        · clear c_102
          refine lv_iconst (v := nI 0) zx zb dX12_tellsItem_132 (by decide) ?_
          refine lv_istore (lv' := [(6, .int (nI 0)), (5, .int (T (7 * i + 2))), (4, .int (T (7 * i + 1))), (3, .int (nI 4)), (2, .int (nI (7 * i))), (0, .ref (m 0)), (1, .int (nI i))]) zx zb dX12_tellsItem_133 hl (by decide) rfl (fun ls hl => ?_)
          refine lv_iload_n zx zb dX12_tellsItem_135 rfl (lv_at hl 3 rfl) ?_
          refine lv_iconst (v := nI 2) zx zb dX12_tellsItem_136 (by decide) ?_
          refine lv_icmp_ne (tgt := 151) zx zb dX12_tellsItem_137 (by decide) (fun c_137 => ?_) (fun c_137 => ?_)
          · clear c_137
            refine lv_iload_n zx zb dX12_tellsItem_151 rfl (lv_at hl 3 rfl) ?_
            refine lv_iconst (v := nI 3) zx zb dX12_tellsItem_152 (by decide) ?_
            refine lv_icmp_ne (tgt := 167) zx zb dX12_tellsItem_153 (by decide) (fun c_153 => ?_) (fun c_153 => ?_)
            · clear c_153
              refine lv_iload_n zx zb dX12_tellsItem_167 rfl (lv_at hl 3 rfl) ?_
              refine lv_iconst (v := nI 4) zx zb dX12_tellsItem_168 (by decide) ?_
              refine lv_icmp_ne (tgt := 181) zx zb dX12_tellsItem_169 (by decide) (fun c_169 => ?_) (fun c_169 => ?_)
              · exact absurd c_169 (by decide)
              · clear c_169
                refine lv_aload_n zx zb dX12_tellsItem_172 rfl (lv_at hl 5 rfl) ?_
                refine lv_iload zx zb dX12_tellsItem_173 (lv_at hl 2 rfl) ?_
                refine call_Vi (As := [.int (T (7 * i + 1))]) (rest := []) XX cv_X12_174 (c_X12_moon Γ l m M b C tr Y pc P f (T (7 * i + 1)) (hr) (hI)) hP hD hS hA [0, 1, 2] (by decide) rfl (fun _ => rfl) 0 0 rfl rfl rfl rfl hl.1 rfl ⟨⟨by decide, by decide⟩, by decide, by decide⟩ (Nat.le_of_ble_eq_true rfl) dX12_tellsItem_175 (fun r_175 u H locs hw hP hD hS => ?_)
                obtain ⟨u_175, rfl⟩ : ∃ z, z = u := ⟨_, rfl⟩
                have w_175 := hw
                have hP : bP Γ [bMo Γ m M, bA Γ (m 1) 259 u_175.1, bA Γ (m 6) 3 u_175.2, bA Γ (m 8) 350 T] H := hP
                have hD : bD AA [bMo Γ m M, bA Γ (m 1) 259 u_175.1, bA Γ (m 6) 3 u_175.2, bA Γ (m 8) 350 T] := hD
                refine lv_goto (tgt := 182) zx zb dX12_tellsItem_178 (by decide) ?_
                refine lv_istore (lv' := [(7, .int r_175), (6, .int (nI 0)), (5, .int (T (7 * i + 2))), (4, .int (T (7 * i + 1))), (3, .int (nI 4)), (2, .int (nI (7 * i))), (0, .ref (m 0)), (1, .int (nI i))]) zx zb dX12_tellsItem_182 hl (by decide) rfl (fun ls hl => ?_)
                refine lv_iload zx zb dX12_tellsItem_184 (lv_at hl 1 rfl) ?_
                refine lv_if_lt (tgt := 198) zx zb dX12_tellsItem_186 (by decide) (fun c_186 => ?_) (fun c_186 => ?_)
                · exact absurd c_186 (by decide)
                · clear c_186
                  refine lv_iload zx zb dX12_tellsItem_189 (lv_at hl 0 rfl) ?_
                  refine lv_if_lt (tgt := 198) zx zb dX12_tellsItem_191 (by decide) (fun c_191 => ?_) (fun c_191 => ?_)
                  · have c_191 : r_175 < (0 : Int32) := c_191
                    refine lv_iconst (v := nI 0) zx zb dX12_tellsItem_198 (by decide) ?_
                    exact fin _ _ (nI 0) (u_175.1, u_175.2) 199 _ dX12_tellsItem_199 (fun _ => nar0) (by have e0 : T (7 * i + 1) = v 0 := hv 0 (by decide); exact tm_g (X := (C, tr, Y)) (Z := (tMo C (v 0), tr, Y)) (r1 := r_175) (R := tMoR C (v 0)) (by have z9 := w_175.1; rw [e0] at z9; exact z9) rfl rfl (sg_mo hA0) (okP_t) (by have z9 := w_175.2.1; rw [e0] at z9; exact z9) (w_175.2.2.trans (moVq hq)) (by first | exact Or.inl ⟨c_191, rfl⟩ | exact Or.inr ⟨c_191, rfl⟩)) hP hD hS
                  · have c_191 : ¬ (r_175 < (0 : Int32)) := c_191
                    refine lv_iconst (v := nI 1) zx zb dX12_tellsItem_194 (by decide) ?_
                    refine lv_goto (tgt := 199) zx zb dX12_tellsItem_195 (by decide) ?_
                    exact fin _ _ (nI 1) (u_175.1, u_175.2) 199 _ dX12_tellsItem_199 (fun _ => nar1) (by have e0 : T (7 * i + 1) = v 0 := hv 0 (by decide); exact tm_g (X := (C, tr, Y)) (Z := (tMo C (v 0), tr, Y)) (r1 := r_175) (R := tMoR C (v 0)) (by have z9 := w_175.1; rw [e0] at z9; exact z9) rfl rfl (sg_mo hA0) (okP_t) (by have z9 := w_175.2.1; rw [e0] at z9; exact z9) (w_175.2.2.trans (moVq hq)) (by first | exact Or.inl ⟨c_191, rfl⟩ | exact Or.inr ⟨c_191, rfl⟩)) hP hD hS
            · exact absurd c_153 (by decide)
          · exact absurd c_137 (by decide)
        · exact absurd c_102 (by decide)
      · exact absurd c_88 (by decide)
    · exact absurd c_34 (by decide)
  · subst hsp
    refine lv_iload_n zx zb dX12_tellsItem_32 rfl (lv_at hl 2 rfl) ?_
    refine lv_iconst (v := nI 5) zx zb dX12_tellsItem_33 (by decide) ?_
    refine lv_icmp_ne (tgt := 87) zx zb dX12_tellsItem_34 (by decide) (fun c_34 => ?_) (fun c_34 => ?_)
    · exact absurd c_34 (by decide)
    · clear c_34
      refine lv_aload_n zx zb dX12_tellsItem_37 rfl (lv_at hl 4 rfl) ?_
      refine lv_iload zx zb dX12_tellsItem_38 (lv_at hl 1 rfl) ?_
      refine lv_iload zx zb dX12_tellsItem_40 (lv_at hl 0 rfl) ?_
      refine lv_aload_n zx zb dX12_tellsItem_42 rfl (lv_at hl 4 rfl) ?_
      refine g_get (v := .ref (m 8)) XX hP 0 0 rfl rfl rfl iwX12 13 (by decide) fl_X12_32 rfl dX12_tellsItem_43 ?_
      refine lv_iload_n zx zb dX12_tellsItem_46 rfl (lv_at hl 3 rfl) ?_
      refine lv_iconst (v := nI 3) zx zb dX12_tellsItem_47 (by decide) ?_
      refine lv_iadd zx zb dX12_tellsItem_48 ?_
      refine g_top (y := nI (7 * i + 3)) (nI_add (7 * i) 3) ?_
      refine g_ialdN (i := 7 * i + 3) XX hP 3 0 rfl rfl (by omega) (by decide) dX12_tellsItem_49 ?_
      refine lv_aload_n zx zb dX12_tellsItem_50 rfl (lv_at hl 4 rfl) ?_
      refine g_get (v := .ref (m 8)) XX hP 0 0 rfl rfl rfl iwX12 13 (by decide) fl_X12_32 rfl dX12_tellsItem_51 ?_
      refine lv_iload_n zx zb dX12_tellsItem_54 rfl (lv_at hl 3 rfl) ?_
      refine lv_iconst (v := nI 4) zx zb dX12_tellsItem_55 (by decide) ?_
      refine lv_iadd zx zb dX12_tellsItem_56 ?_
      refine g_top (y := nI (7 * i + 4)) (nI_add (7 * i) 4) ?_
      refine g_ialdN (i := 7 * i + 4) XX hP 3 0 rfl rfl (by omega) (by decide) dX12_tellsItem_57 ?_
      refine lv_aload_n zx zb dX12_tellsItem_58 rfl (lv_at hl 4 rfl) ?_
      refine g_get (v := .ref (m 8)) XX hP 0 0 rfl rfl rfl iwX12 13 (by decide) fl_X12_32 rfl dX12_tellsItem_59 ?_
      refine lv_iload_n zx zb dX12_tellsItem_62 rfl (lv_at hl 3 rfl) ?_
      refine lv_iconst (v := nI 5) zx zb dX12_tellsItem_63 (by decide) ?_
      refine lv_iadd zx zb dX12_tellsItem_64 ?_
      refine g_top (y := nI (7 * i + 5)) (nI_add (7 * i) 5) ?_
      refine g_ialdN (i := 7 * i + 5) XX hP 3 0 rfl rfl (by omega) (by decide) dX12_tellsItem_65 ?_
      refine lv_aload_n zx zb dX12_tellsItem_66 rfl (lv_at hl 4 rfl) ?_
      refine g_get (v := .ref (m 8)) XX hP 0 0 rfl rfl rfl iwX12 13 (by decide) fl_X12_32 rfl dX12_tellsItem_67 ?_
      refine lv_iload_n zx zb dX12_tellsItem_70 rfl (lv_at hl 3 rfl) ?_
      refine lv_bipush (v := nI 6) zx zb dX12_tellsItem_71 (by decide) ?_
      refine lv_iadd zx zb dX12_tellsItem_73 ?_
      refine g_top (y := nI (7 * i + 6)) (nI_add (7 * i) 6) ?_
      refine g_ialdN (i := 7 * i + 6) XX hP 3 0 rfl rfl (by omega) (by decide) dX12_tellsItem_74 ?_
      refine call_Vi (As := [.int (T (7 * i + 1)), .int (T (7 * i + 2)), .int (T (7 * i + 3)), .int (T (7 * i + 4)), .int (T (7 * i + 5)), .int (T (7 * i + 6))]) (rest := []) XX cv_X12_157 (c_X12_treaty Γ l m M b C tr Y pc P f (T (7 * i + 1)) (T (7 * i + 2)) (T (7 * i + 3)) (T (7 * i + 4)) (T (7 * i + 5)) (T (7 * i + 6)) (hr) (hI) (fun h6 => off_br hA0.2.1 h6)) hP hD hS hA [0, 1, 2] (by decide) rfl (fun _ => rfl) 0 0 rfl rfl rfl rfl hl.1 rfl ⟨⟨by decide, by decide⟩, by decide, by decide⟩ (Nat.le_of_ble_eq_true rfl) dX12_tellsItem_75 (fun r_75 u H locs hw hP hD hS => ?_)
      obtain ⟨u_75, rfl⟩ : ∃ z, z = u := ⟨_, rfl⟩
      have w_75 := hw
      have hP : bP Γ [bMo Γ m M, bA Γ (m 1) 259 u_75.1, bA Γ (m 6) 3 u_75.2, bA Γ (m 8) 350 T] H := hP
      have hD : bD AA [bMo Γ m M, bA Γ (m 1) 259 u_75.1, bA Γ (m 6) 3 u_75.2, bA Γ (m 8) 350 T] := hD
      refine lv_if_lt (tgt := 85) zx zb dX12_tellsItem_78 (by decide) (fun c_78 => ?_) (fun c_78 => ?_)
      · have c_78 : r_75 < (0 : Int32) := c_78
        refine lv_iconst (v := nI 0) zx zb dX12_tellsItem_85 (by decide) ?_
        exact fin _ _ (nI 0) (u_75.1, u_75.2) 86 _ dX12_tellsItem_86 (fun _ => nar0) (by have e0 : T (7 * i + 1) = v 0 := hv 0 (by decide); have e1 : T (7 * i + 2) = v 1 := hv 1 (by decide); have e2 : T (7 * i + 3) = v 2 := hv 2 (by decide); have e3 : T (7 * i + 4) = v 3 := hv 3 (by decide); have e4 : T (7 * i + 5) = v 4 := hv 4 (by decide); have e5 : T (7 * i + 6) = v 5 := hv 5 (by decide); exact tm_g (X := (C, tr, Y)) (Z := ((tTr C tr (v 0) (v 1) (v 2) (v 3) (v 4) (v 5)).1, (tTr C tr (v 0) (v 1) (v 2) (v 3) (v 4) (v 5)).2, Y)) (r1 := r_75) (R := tTrR C (v 0) (v 1) (v 2) (v 3) (v 4) (v 5)) (by have z9 := w_75.1; rw [e0, e1, e2, e3, e4, e5] at z9; exact z9) rfl rfl (sg_tr hA0) (fun z => if_pos z) (by have z9 := w_75.2.1; rw [e0, e1, e2, e3, e4, e5] at z9; exact z9) (w_75.2.2.trans (trFq hq)) (by first | exact Or.inl ⟨c_78, rfl⟩ | exact Or.inr ⟨c_78, rfl⟩)) hP hD hS
      · have c_78 : ¬ (r_75 < (0 : Int32)) := c_78
        refine lv_iconst (v := nI 1) zx zb dX12_tellsItem_81 (by decide) ?_
        refine lv_goto (tgt := 86) zx zb dX12_tellsItem_82 (by decide) ?_
        exact fin _ _ (nI 1) (u_75.1, u_75.2) 86 _ dX12_tellsItem_86 (fun _ => nar1) (by have e0 : T (7 * i + 1) = v 0 := hv 0 (by decide); have e1 : T (7 * i + 2) = v 1 := hv 1 (by decide); have e2 : T (7 * i + 3) = v 2 := hv 2 (by decide); have e3 : T (7 * i + 4) = v 3 := hv 3 (by decide); have e4 : T (7 * i + 5) = v 4 := hv 4 (by decide); have e5 : T (7 * i + 6) = v 5 := hv 5 (by decide); exact tm_g (X := (C, tr, Y)) (Z := ((tTr C tr (v 0) (v 1) (v 2) (v 3) (v 4) (v 5)).1, (tTr C tr (v 0) (v 1) (v 2) (v 3) (v 4) (v 5)).2, Y)) (r1 := r_75) (R := tTrR C (v 0) (v 1) (v 2) (v 3) (v 4) (v 5)) (by have z9 := w_75.1; rw [e0, e1, e2, e3, e4, e5] at z9; exact z9) rfl rfl (sg_tr hA0) (fun z => if_pos z) (by have z9 := w_75.2.1; rw [e0, e1, e2, e3, e4, e5] at z9; exact z9) (w_75.2.2.trans (trFq hq)) (by first | exact Or.inl ⟨c_78, rfl⟩ | exact Or.inr ⟨c_78, rfl⟩)) hP hD hS
