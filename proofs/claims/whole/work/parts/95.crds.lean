theorem cs_X12_153 : CWS RX12 153 yX12_numbers cX12_numbers 1 (some (.int)) 1 := ⟨cd_X12_numbers, st_X12_numbers, in_X12, ml_X12_153, by decide +kernel⟩
theorem cv_X12_150 : CWV RX12 150 RX12 yX12_scans cX12_scans 3 none 0 := ⟨cd_X12_scans, im_X12_scans, se_X12_X12_scans_X12_scans, in_X12, ml_X12_150, by decide +kernel⟩
set_option maxHeartbeats 4000000 in
set_option maxRecDepth 100000 in
theorem c_X12_reads (Γ : GG) (l : Launch) (m : Nat → Nat) (M : MoV) (g : Nat → Int32) (T : Nat → Int32) (hl0 : M.2.1 ≤ 150) : Ci Γ l yX12_reads cX12_reads 3 (some (.boolean)) 3 69 0 0 [.ref (m 0)] [bMo Γ m M, bA Γ (m 7) 150 g, bA Γ (m 8) 350 T] (fun (r : Int32) (u : MoV × (Nat → Int32)) => rdE g M r u.1 u.2) (fun (u : MoV × (Nat → Int32)) => [bMo Γ m u.1, bA Γ (m 7) 150 g, bA Γ (m 8) 350 u.2]) := by
  refine Ci.of (Or.inr rfl) (by decide) (Nat.le_of_ble_eq_true rfl) ?_
  intro pp ee ss mm bb me cd AA QQ XX hnm hA hP hD fin ls hl
  obtain ⟨zx, zb, hml, hown, hts, hK⟩ := id XX
  have hS : va_S AA ss.heap ss.heap [] := va_S.rf
  have hl : lv_has ls 3 [(0, .ref (m 0))] := hl
  refine lv_aload_n zx zb dX12_reads_0 rfl (lv_at hl 0 rfl) ?_
  refine lv_iconst (v := nI 0) zx zb dX12_reads_1 (by decide) ?_
  refine g_put (v := .int (nI 0)) (blk' := bMo Γ m (M.1, M.2.1, 0, M.2.2.2.1, M.2.2.2.2.1, M.2.2.2.2.2.1, M.2.2.2.2.2.2)) (bs' := [bMo Γ m (M.1, M.2.1, 0, M.2.2.2.1, M.2.2.2.2.1, M.2.2.2.2.2.1, M.2.2.2.2.2.2), bA Γ (m 7) 150 g, bA Γ (m 8) 350 T]) XX hP hD hS 0 0 rfl rfl rfl iwX12 tyX12_ok nmX12 9 (by decide) fl_X12_111 rfl rfl rfl (Nat.le_of_ble_eq_true rfl) rfl rfl rfl dX12_reads_2 (fun H locs hP hD hS => ?_)
  refine lv_aload_n zx zb dX12_reads_5 rfl (lv_at hl 0 rfl) ?_
  refine lv_iconst (v := nI 0) zx zb dX12_reads_6 (by decide) ?_
  refine g_put (v := .int (nI 0)) (blk' := bMo Γ m (M.1, M.2.1, 0, M.2.2.2.1, M.2.2.2.2.1, M.2.2.2.2.2.1, 0)) (bs' := [bMo Γ m (M.1, M.2.1, 0, M.2.2.2.1, M.2.2.2.2.1, M.2.2.2.2.2.1, 0), bA Γ (m 7) 150 g, bA Γ (m 8) 350 T]) XX hP hD hS 0 0 rfl rfl rfl iwX12 tyX12_ok nmX12 14 (by decide) fl_X12_147 rfl rfl rfl (Nat.le_of_ble_eq_true rfl) rfl rfl rfl dX12_reads_7 (fun H locs hP hD hS => ?_)
  refine lv_aload_n zx zb dX12_reads_10 rfl (lv_at hl 0 rfl) ?_
  refine call_Vv (As := []) (rest := []) XX cv_X12_150 (c_X12_scans Γ l m (M.1, M.2.1, 0, M.2.2.2.1, M.2.2.2.2.1, M.2.2.2.2.2.1, 0) g (hl0) (Nat.zero_le _)) hP hD hS hA [0, 1] (by decide) rfl (fun _ => rfl) 0 0 rfl rfl rfl rfl hl.1 rfl ⟨⟨by decide, by decide⟩, by decide, by decide⟩ (Nat.le_of_ble_eq_true rfl) dX12_reads_11 (fun u H locs hw hP hD hS => ?_)
  obtain ⟨u_11, rfl⟩ : ∃ z, z = u := ⟨_, rfl⟩
  have w_11 := hw
  have hP : bP Γ [bMo Γ m u_11, bA Γ (m 7) 150 g, bA Γ (m 8) 350 T] H := hP
  have hD : bD AA [bMo Γ m u_11, bA Γ (m 7) 150 g, bA Γ (m 8) 350 T] := hD
  have L14 : ∀ (nn : Nat) (M1 : MoV) (T1 : Nat → Int32), (rdO g M T1 M1) → M.2.1 - M1.2.2.1 < nn → ∀ (H : Heap) (locs : List Loc), bP Γ [bMo Γ m M1, bA Γ (m 7) 150 g, bA Γ (m 8) 350 T1] H → bD AA [bMo Γ m M1, bA Γ (m 7) 150 g, bA Γ (m 8) 350 T1] → va_S AA ss.heap H locs → ∀ (ls : Array Slot), lv_has ls 3 [(0, .ref (m 0))] → W pp l ee { frames := 3, cells := 0, slots := 0, locals := 69 } ss mm [.ref (m 0)].toArray bb me cd H locs 0 0 QQ (F0 mm 14 ls []) := by
    intro nn
    induction nn with
    | zero => intro M1 T1 hO hm; exact absurd hm (Nat.not_lt_zero _)
    | succ nn ih14 =>
      intro M1 T1 hO hm14 H locs hP hD hS ls hl
      obtain ⟨htb, hmb, hpb, hty, hqu⟩ := rdO_b hO
      refine lv_aload_n zx zb dX12_reads_14 rfl (lv_at hl 0 rfl) ?_
      refine g_get (v := .int (nI (M1.2.2.2.2.1))) XX hP 0 0 rfl rfl rfl iwX12 11 (by decide) fl_X12_133 rfl dX12_reads_15 ?_
      refine lv_if_ne (tgt := 28) zx zb dX12_reads_18 (by decide) (fun c_18 => ?_) (fun c_18 => ?_)
      · have c_18 : ¬ (M1.2.2.2.2.1 = 0) := fun h => c_18 ((nI_eq (a := M1.2.2.2.2.1) (b := 0) (by omega) (by omega)).mpr h)
        refine lv_aload_n zx zb dX12_reads_28 rfl (lv_at hl 0 rfl) ?_
        refine g_get (v := .int (nI (M1.2.2.2.2.1))) XX hP 0 0 rfl rfl rfl iwX12 11 (by decide) fl_X12_133 rfl dX12_reads_29 ?_
        refine lv_iconst (v := nI 4) zx zb dX12_reads_32 (by decide) ?_
        obtain ⟨vb, hvb⟩ : ∃ z : Int32, z = nI M1.2.2.2.2.1 - 4 := ⟨_, rfl⟩
        refine lv_isub zx zb dX12_reads_33 ?_
        refine g_top (y := (nI (M1.2.2.2.2.1)) - 4) rfl ?_
        refine g_top (y := vb) (hvb.symm) ?_
        refine lv_istore_n (lv' := [(1, .int vb), (0, .ref (m 0))]) zx zb dX12_reads_34 rfl hl (by decide) rfl (fun ls hl => ?_)
        refine lv_iload_n zx zb dX12_reads_35 rfl (lv_at hl 0 rfl) ?_
        refine lv_if_lt (tgt := 63) zx zb dX12_reads_36 (by decide) (fun c_36 => ?_) (fun c_36 => ?_)
        · have c_36 : vb < (0 : Int32) := c_36
          refine lv_iconst (v := nI 0) zx zb dX12_reads_63 (by decide) ?_
          exact fin _ _ (nI 0) (M1, T1) 64 _ dX12_reads_64 (fun _ => nar0) (show rdE g M (nI 0) M1 T1 by first | exact rd_f1 hO hvb c_36 (fun h => by omega) | exact rd_f2 hO hwv.2 (by omega)) hP hD hS
        · have c_36 : ¬ (vb < (0 : Int32)) := c_36
          obtain ⟨wv, hwv, rfl⟩ := rd_w hO hvb c_36
          refine lv_iload_n zx zb dX12_reads_39 rfl (lv_at hl 0 rfl) ?_
          refine lv_if_ne (tgt := 47) zx zb dX12_reads_40 (by decide) (fun c_40 => ?_) (fun c_40 => ?_)
          · have c_40 : ¬ (wv = 0) := fun h => c_40 ((nI_eq (a := wv) (b := 0) (by omega) (by omega)).mpr h)
            refine lv_iconst (v := nI 0) zx zb dX12_reads_47 (by decide) ?_
            refine lv_aload_n zx zb dX12_reads_48 rfl (lv_at hl 1 rfl) ?_
            refine g_get (v := .int (nI (M1.2.2.2.2.2.2))) XX hP 0 0 rfl rfl rfl iwX12 14 (by decide) fl_X12_147 rfl dX12_reads_49 ?_
            refine lv_if_ne (tgt := 59) zx zb dX12_reads_52 (by decide) (fun c_52 => ?_) (fun c_52 => ?_)
            · have c_52 : ¬ (M1.2.2.2.2.2.2 = 0) := fun h => c_52 ((nI_eq (a := M1.2.2.2.2.2.2) (b := 0) (by omega) (by omega)).mpr h)
              refine lv_iconst (v := nI 0) zx zb dX12_reads_59 (by decide) ?_
              refine lv_icmp_eq (tgt := 65) zx zb dX12_reads_60 (by decide) (fun c_60 => ?_) (fun c_60 => ?_)
              · clear c_60
                refine lv_aload_n zx zb dX12_reads_65 rfl (lv_at hl 1 rfl) ?_
                refine g_get (v := .ref (m 8)) XX hP 0 0 rfl rfl rfl iwX12 13 (by decide) fl_X12_32 rfl dX12_reads_66 ?_
                refine lv_bipush (v := nI 7) zx zb dX12_reads_69 (by decide) ?_
                refine lv_aload_n zx zb dX12_reads_71 rfl (lv_at hl 1 rfl) ?_
                refine g_get (v := .int (nI (M1.2.2.2.2.2.2))) XX hP 0 0 rfl rfl rfl iwX12 14 (by decide) fl_X12_147 rfl dX12_reads_72 ?_
                refine lv_imul zx zb dX12_reads_75 ?_
                refine g_top (y := nI (7 * M1.2.2.2.2.2.2)) (pk_mul 7 M1.2.2.2.2.2.2) ?_
                refine lv_iload_n zx zb dX12_reads_76 rfl (lv_at hl 0 rfl) ?_
                refine g_iastN (x := nI wv) (i := 7 * M1.2.2.2.2.2.2) (blk' := bA Γ (m 8) 350 (upd T1 (7 * M1.2.2.2.2.2.2) (nI wv))) (bs' := [bMo Γ m M1, bA Γ (m 7) 150 g, bA Γ (m 8) 350 (upd T1 (7 * M1.2.2.2.2.2.2) (nI wv))]) XX hP hD hS 2 0 rfl rfl (by have hx9 : 7 * M1.2.2.2.2.2.2 < 350 := rd_ix hO hwv.2 hl0; omega) (by decide) rfl rfl dX12_reads_77 (fun H locs hP hD hS => ?_)
                refine lv_aload_n zx zb dX12_reads_78 rfl (lv_at hl 1 rfl) ?_
                refine call_Vv (As := []) (rest := []) XX cv_X12_150 (c_X12_scans Γ l m M1 g (by rw [hty]; exact hl0) (by rw [hty]; exact hpb)) hP hD hS hA [0, 1] (by decide) rfl (fun _ => rfl) 0 0 rfl rfl rfl rfl hl.1 rfl ⟨⟨by decide, by decide⟩, by decide, by decide⟩ (Nat.le_of_ble_eq_true rfl) dX12_reads_79 (fun u H locs hw hP hD hS => ?_)
                obtain ⟨u_79, rfl⟩ : ∃ z, z = u := ⟨_, rfl⟩
                have w_79 := hw
                have hP : bP Γ [bMo Γ m u_79, bA Γ (m 7) 150 g, bA Γ (m 8) 350 (upd T1 (7 * M1.2.2.2.2.2.2) (nI wv))] H := hP
                have hD : bD AA [bMo Γ m u_79, bA Γ (m 7) 150 g, bA Γ (m 8) 350 (upd T1 (7 * M1.2.2.2.2.2.2) (nI wv))] := hD
                refine lv_iconst (v := nI 0) zx zb dX12_reads_82 (by decide) ?_
                refine lv_istore_n (lv' := [(2, .int (nI 0)), (1, .int (nI wv)), (0, .ref (m 0))]) zx zb dX12_reads_83 rfl hl (by decide) rfl (fun ls hl => ?_)
                have L84 : ∀ (nn : Nat) (k : Nat) (M2 : MoV) (T2 : Nat → Int32), (rdI g M T2 M2 wv k M1.2.2.1) → nbN wv - k < nn → ∀ (H : Heap) (locs : List Loc), bP Γ [bMo Γ m M2, bA Γ (m 7) 150 g, bA Γ (m 8) 350 T2] H → bD AA [bMo Γ m M2, bA Γ (m 7) 150 g, bA Γ (m 8) 350 T2] → va_S AA ss.heap H locs → ∀ (ls : Array Slot), lv_has ls 3 [(0, .ref (m 0)), (1, .int (nI wv)), (2, .int (nI k))] → W pp l ee { frames := 3, cells := 0, slots := 0, locals := 69 } ss mm [.ref (m 0)].toArray bb me cd H locs 0 0 QQ (F0 mm 84 ls []) := by
                  intro nn
                  induction nn with
                  | zero => intro k M2 T2 hN hm; exact absurd hm (Nat.not_lt_zero _)
                  | succ nn ih84 =>
                    intro k M2 T2 hN hm84 H locs hP hD hS ls hl
                    obtain ⟨ktb, kmb, kpb, kty, kqu, kk9, kp0, kix⟩ := rdI_b hN
                    have hnb := nbN_le wv
                    refine lv_iload_n zx zb dX12_reads_84 rfl (lv_at hl 2 rfl) ?_
                    refine lv_iload_n zx zb dX12_reads_85 rfl (lv_at hl 1 rfl) ?_
                    refine callR_Si (As := [.int (nI wv)]) (rest := [.int (nI k)]) XX cs_X12_153 (c_X12_numbers Γ l wv (hwv.1)) hP hD hS hA nil_mem nil_D rfl hl.1 rfl ⟨⟨by decide, by decide⟩, by decide, by decide⟩ (Nat.le_of_ble_eq_true rfl) dX12_reads_86 (fun r_86 H locs hw hP hS => ?_)
                    have hw := hw.symm
                    subst hw
                    refine lv_icmp_ge (tgt := 132) zx zb dX12_reads_89 (by decide) (fun c_89 => ?_) (fun c_89 => ?_)
                    · have c_89 : nbN wv ≤ k := (nI_leI (a := nbN wv) (b := k) (by omega) (by omega)).mp c_89
                      refine lv_aload_n zx zb dX12_reads_132 rfl (lv_at hl 0 rfl) ?_
                      refine g_get (v := .int (nI (M2.2.2.2.2.1))) XX hP 0 0 rfl rfl rfl iwX12 11 (by decide) fl_X12_133 rfl dX12_reads_133 ?_
                      refine lv_iconst (v := nI 3) zx zb dX12_reads_136 (by decide) ?_
                      refine lv_icmp_eq (tgt := 142) zx zb dX12_reads_137 (by decide) (fun c_137 => ?_) (fun c_137 => ?_)
                      · have c_137 : M2.2.2.2.2.1 = 3 := (nI_eq (a := M2.2.2.2.2.1) (b := 3) (by omega) (by omega)).mp c_137
                        refine lv_aload_n zx zb dX12_reads_142 rfl (lv_at hl 0 rfl) ?_
                        refine lv_dup zx zb dX12_reads_143 rfl ?_
                        refine g_get (v := .int (nI (M2.2.2.2.2.2.2))) XX hP 0 0 rfl rfl rfl iwX12 14 (by decide) fl_X12_147 rfl dX12_reads_144 ?_
                        refine lv_iconst (v := nI 1) zx zb dX12_reads_147 (by decide) ?_
                        refine lv_iadd zx zb dX12_reads_148 ?_
                        refine g_top (y := nI (M2.2.2.2.2.2.2 + 1)) (nI_add M2.2.2.2.2.2.2 1) ?_
                        refine g_put (v := .int (nI (M2.2.2.2.2.2.2 + 1))) (blk' := bMo Γ m (M2.1, M2.2.1, M2.2.2.1, M2.2.2.2.1, M2.2.2.2.2.1, M2.2.2.2.2.2.1, M2.2.2.2.2.2.2 + 1)) (bs' := [bMo Γ m (M2.1, M2.2.1, M2.2.2.1, M2.2.2.2.1, M2.2.2.2.2.1, M2.2.2.2.2.2.1, M2.2.2.2.2.2.2 + 1), bA Γ (m 7) 150 g, bA Γ (m 8) 350 T2]) XX hP hD hS 0 0 rfl rfl rfl iwX12 tyX12_ok nmX12 14 (by decide) fl_X12_147 rfl rfl rfl (Nat.le_of_ble_eq_true rfl) rfl rfl rfl dX12_reads_149 (fun H locs hP hD hS => ?_)
                        refine lv_aload_n zx zb dX12_reads_152 rfl (lv_at hl 0 rfl) ?_
                        refine call_Vv (As := []) (rest := []) XX cv_X12_150 (c_X12_scans Γ l m (M2.1, M2.2.1, M2.2.2.1, M2.2.2.2.1, M2.2.2.2.2.1, M2.2.2.2.2.2.1, M2.2.2.2.2.2.2 + 1) g (show M2.2.1 ≤ 150 by rw [kty]; exact hl0) (show M2.2.2.1 ≤ M2.2.1 by rw [kty]; exact kpb)) hP hD hS hA [0, 1] (by decide) rfl (fun _ => rfl) 0 0 rfl rfl rfl rfl hl.1 rfl ⟨⟨by decide, by decide⟩, by decide, by decide⟩ (Nat.le_of_ble_eq_true rfl) dX12_reads_153 (fun u H locs hw hP hD hS => ?_)
                        obtain ⟨u_153, rfl⟩ : ∃ z, z = u := ⟨_, rfl⟩
                        have w_153 := hw
                        have hP : bP Γ [bMo Γ m u_153, bA Γ (m 7) 150 g, bA Γ (m 8) 350 T2] H := hP
                        have hD : bD AA [bMo Γ m u_153, bA Γ (m 7) 150 g, bA Γ (m 8) 350 T2] := hD
                        refine lv_goto (tgt := 14) zx zb dX12_reads_156 (by decide) ?_
                        exact ih14 u_153 T2 ((rd_s hN c_137 (by omega) w_153.1.1 w_153.1.2.1 w_153.1.2.2 w_153.2).1) (by have h8 := (rd_s hN c_137 (by omega) w_153.1.1 w_153.1.2.1 w_153.1.2.2 w_153.2); have h9 := (rdO_b h8.1).2.2.1; have h7 := h8.2; omega) _ _ hP hD hS _ (lv_sub hl [0] rfl)
                      · have c_137 : ¬ (M2.2.2.2.2.1 = 3) := fun h => c_137 ((nI_eq (a := M2.2.2.2.2.1) (b := 3) (by omega) (by omega)).mpr h)
                        refine lv_iconst (v := nI 0) zx zb dX12_reads_140 (by decide) ?_
                        exact fin _ _ (nI 0) (M2, T2) 141 _ dX12_reads_141 (fun _ => nar0) (rd_f4 hN c_137 (by omega)) hP hD hS
                    · have c_89 : ¬ (nbN wv ≤ k) := fun h => c_89 ((nI_leI (a := nbN wv) (b := k) (by omega) (by omega)).mpr h)
                      refine lv_aload_n zx zb dX12_reads_92 rfl (lv_at hl 0 rfl) ?_
                      refine g_get (v := .int (nI (M2.2.2.2.2.1))) XX hP 0 0 rfl rfl rfl iwX12 11 (by decide) fl_X12_133 rfl dX12_reads_93 ?_
                      refine lv_iconst (v := nI 2) zx zb dX12_reads_96 (by decide) ?_
                      refine lv_icmp_eq (tgt := 102) zx zb dX12_reads_97 (by decide) (fun c_97 => ?_) (fun c_97 => ?_)
                      · have c_97 : M2.2.2.2.2.1 = 2 := (nI_eq (a := M2.2.2.2.2.1) (b := 2) (by omega) (by omega)).mp c_97
                        refine lv_aload_n zx zb dX12_reads_102 rfl (lv_at hl 0 rfl) ?_
                        refine g_get (v := .ref (m 8)) XX hP 0 0 rfl rfl rfl iwX12 13 (by decide) fl_X12_32 rfl dX12_reads_103 ?_
                        refine lv_bipush (v := nI 7) zx zb dX12_reads_106 (by decide) ?_
                        refine lv_aload_n zx zb dX12_reads_108 rfl (lv_at hl 0 rfl) ?_
                        refine g_get (v := .int (nI (M2.2.2.2.2.2.2))) XX hP 0 0 rfl rfl rfl iwX12 14 (by decide) fl_X12_147 rfl dX12_reads_109 ?_
                        refine lv_imul zx zb dX12_reads_112 ?_
                        refine g_top (y := nI (7 * M2.2.2.2.2.2.2)) (pk_mul 7 M2.2.2.2.2.2.2) ?_
                        refine lv_iconst (v := nI 1) zx zb dX12_reads_113 (by decide) ?_
                        refine lv_iadd zx zb dX12_reads_114 ?_
                        refine g_top (y := nI (7 * M2.2.2.2.2.2.2 + 1)) (nI_add (7 * M2.2.2.2.2.2.2) 1) ?_
                        refine lv_iload_n zx zb dX12_reads_115 rfl (lv_at hl 2 rfl) ?_
                        refine lv_iadd zx zb dX12_reads_116 ?_
                        refine g_top (y := nI (7 * M2.2.2.2.2.2.2 + 1 + k)) (nI_add (7 * M2.2.2.2.2.2.2 + 1) k) ?_
                        refine lv_aload_n zx zb dX12_reads_117 rfl (lv_at hl 0 rfl) ?_
                        refine g_get (v := .int (nI (M2.2.2.2.2.2.1))) XX hP 0 0 rfl rfl rfl iwX12 12 (by decide) fl_X12_144 rfl dX12_reads_118 ?_
                        refine g_iastN (x := nI (M2.2.2.2.2.2.1)) (i := 7 * M2.2.2.2.2.2.2 + 1 + k) (blk' := bA Γ (m 8) 350 (upd T2 (7 * M2.2.2.2.2.2.2 + 1 + k) (nI (M2.2.2.2.2.2.1)))) (bs' := [bMo Γ m M2, bA Γ (m 7) 150 g, bA Γ (m 8) 350 (upd T2 (7 * M2.2.2.2.2.2.2 + 1 + k) (nI (M2.2.2.2.2.2.1)))]) XX hP hD hS 2 0 rfl rfl (by have hx9 := kix c_97; omega) (by decide) rfl rfl dX12_reads_121 (fun H locs hP hD hS => ?_)
                        refine lv_aload_n zx zb dX12_reads_122 rfl (lv_at hl 0 rfl) ?_
                        refine call_Vv (As := []) (rest := []) XX cv_X12_150 (c_X12_scans Γ l m M2 g (by rw [kty]; exact hl0) (by rw [kty]; exact kpb)) hP hD hS hA [0, 1] (by decide) rfl (fun _ => rfl) 0 0 rfl rfl rfl rfl hl.1 rfl ⟨⟨by decide, by decide⟩, by decide, by decide⟩ (Nat.le_of_ble_eq_true rfl) dX12_reads_123 (fun u H locs hw hP hD hS => ?_)
                        obtain ⟨u_123, rfl⟩ : ∃ z, z = u := ⟨_, rfl⟩
                        have w_123 := hw
                        have hP : bP Γ [bMo Γ m u_123, bA Γ (m 7) 150 g, bA Γ (m 8) 350 (upd T2 (7 * M2.2.2.2.2.2.2 + 1 + k) (nI (M2.2.2.2.2.2.1)))] H := hP
                        have hD : bD AA [bMo Γ m u_123, bA Γ (m 7) 150 g, bA Γ (m 8) 350 (upd T2 (7 * M2.2.2.2.2.2.2 + 1 + k) (nI (M2.2.2.2.2.2.1)))] := hD
                        refine lv_iinc (v := nI (k + 1)) (lv' := [(2, .int (nI (k + 1))), (0, .ref (m 0)), (1, .int (nI wv))]) zx zb dX12_reads_126 hl (k := 2) rfl (nI_inc _ 1) (by decide) rfl (fun ls hl => ?_)
                        refine lv_goto (tgt := 84) zx zb dX12_reads_129 (by decide) ?_
                        exact ih84 (k + 1) u_123 (upd T2 (7 * M2.2.2.2.2.2.2 + 1 + k) (nI (M2.2.2.2.2.2.1))) (rd_n hN c_97 (by omega) w_123.1.1 w_123.1.2.1 w_123.1.2.2 w_123.2) (by omega) _ _ hP hD hS _ (lv_sub hl [1, 2, 0] rfl)
                      · have c_97 : ¬ (M2.2.2.2.2.1 = 2) := fun h => c_97 ((nI_eq (a := M2.2.2.2.2.1) (b := 2) (by omega) (by omega)).mpr h)
                        refine lv_iconst (v := nI 0) zx zb dX12_reads_100 (by decide) ?_
                        exact fin _ _ (nI 0) (M2, T2) 101 _ dX12_reads_101 (fun _ => nar0) (rd_f3 hN c_97 (by omega)) hP hD hS
                exact L84 _ 0 u_79 (upd T1 (7 * M1.2.2.2.2.2.2) (nI wv)) (rd_i hO hwv.2 hwv.1 (by omega) w_79.1.1 w_79.1.2.1 w_79.1.2.2 w_79.2) (Nat.lt_succ_self _) _ _ hP hD hS _ (lv_sub hl [2, 1, 0] rfl)
              · exact absurd c_60 (by decide)
            · have c_52 : M1.2.2.2.2.2.2 = 0 := (nI_eq (a := M1.2.2.2.2.2.2) (b := 0) (by omega) (by omega)).mp c_52
              refine lv_iconst (v := nI 1) zx zb dX12_reads_55 (by decide) ?_
              refine lv_goto (tgt := 60) zx zb dX12_reads_56 (by decide) ?_
              refine lv_icmp_eq (tgt := 65) zx zb dX12_reads_60 (by decide) (fun c_60 => ?_) (fun c_60 => ?_)
              · exact absurd c_60 (by decide)
              · clear c_60
                refine lv_iconst (v := nI 0) zx zb dX12_reads_63 (by decide) ?_
                exact fin _ _ (nI 0) (M1, T1) 64 _ dX12_reads_64 (fun _ => nar0) (show rdE g M (nI 0) M1 T1 by first | exact rd_f1 hO hvb c_36 (fun h => by omega) | exact rd_f2 hO hwv.2 (by omega)) hP hD hS
          · have c_40 : wv = 0 := (nI_eq (a := wv) (b := 0) (by omega) (by omega)).mp c_40
            refine lv_iconst (v := nI 1) zx zb dX12_reads_43 (by decide) ?_
            refine lv_goto (tgt := 48) zx zb dX12_reads_44 (by decide) ?_
            refine lv_aload_n zx zb dX12_reads_48 rfl (lv_at hl 1 rfl) ?_
            refine g_get (v := .int (nI (M1.2.2.2.2.2.2))) XX hP 0 0 rfl rfl rfl iwX12 14 (by decide) fl_X12_147 rfl dX12_reads_49 ?_
            refine lv_if_ne (tgt := 59) zx zb dX12_reads_52 (by decide) (fun c_52 => ?_) (fun c_52 => ?_)
            · have c_52 : ¬ (M1.2.2.2.2.2.2 = 0) := fun h => c_52 ((nI_eq (a := M1.2.2.2.2.2.2) (b := 0) (by omega) (by omega)).mpr h)
              refine lv_iconst (v := nI 0) zx zb dX12_reads_59 (by decide) ?_
              refine lv_icmp_eq (tgt := 65) zx zb dX12_reads_60 (by decide) (fun c_60 => ?_) (fun c_60 => ?_)
              · exact absurd c_60 (by decide)
              · clear c_60
                refine lv_iconst (v := nI 0) zx zb dX12_reads_63 (by decide) ?_
                exact fin _ _ (nI 0) (M1, T1) 64 _ dX12_reads_64 (fun _ => nar0) (show rdE g M (nI 0) M1 T1 by first | exact rd_f1 hO hvb c_36 (fun h => by omega) | exact rd_f2 hO hwv.2 (by omega)) hP hD hS
            · have c_52 : M1.2.2.2.2.2.2 = 0 := (nI_eq (a := M1.2.2.2.2.2.2) (b := 0) (by omega) (by omega)).mp c_52
              refine lv_iconst (v := nI 1) zx zb dX12_reads_55 (by decide) ?_
              refine lv_goto (tgt := 60) zx zb dX12_reads_56 (by decide) ?_
              refine lv_icmp_eq (tgt := 65) zx zb dX12_reads_60 (by decide) (fun c_60 => ?_) (fun c_60 => ?_)
              · clear c_60
                refine lv_aload_n zx zb dX12_reads_65 rfl (lv_at hl 1 rfl) ?_
                refine g_get (v := .ref (m 8)) XX hP 0 0 rfl rfl rfl iwX12 13 (by decide) fl_X12_32 rfl dX12_reads_66 ?_
                refine lv_bipush (v := nI 7) zx zb dX12_reads_69 (by decide) ?_
                refine lv_aload_n zx zb dX12_reads_71 rfl (lv_at hl 1 rfl) ?_
                refine g_get (v := .int (nI (M1.2.2.2.2.2.2))) XX hP 0 0 rfl rfl rfl iwX12 14 (by decide) fl_X12_147 rfl dX12_reads_72 ?_
                refine lv_imul zx zb dX12_reads_75 ?_
                refine g_top (y := nI (7 * M1.2.2.2.2.2.2)) (pk_mul 7 M1.2.2.2.2.2.2) ?_
                refine lv_iload_n zx zb dX12_reads_76 rfl (lv_at hl 0 rfl) ?_
                refine g_iastN (x := nI wv) (i := 7 * M1.2.2.2.2.2.2) (blk' := bA Γ (m 8) 350 (upd T1 (7 * M1.2.2.2.2.2.2) (nI wv))) (bs' := [bMo Γ m M1, bA Γ (m 7) 150 g, bA Γ (m 8) 350 (upd T1 (7 * M1.2.2.2.2.2.2) (nI wv))]) XX hP hD hS 2 0 rfl rfl (by have hx9 : 7 * M1.2.2.2.2.2.2 < 350 := rd_ix hO hwv.2 hl0; omega) (by decide) rfl rfl dX12_reads_77 (fun H locs hP hD hS => ?_)
                refine lv_aload_n zx zb dX12_reads_78 rfl (lv_at hl 1 rfl) ?_
                refine call_Vv (As := []) (rest := []) XX cv_X12_150 (c_X12_scans Γ l m M1 g (by rw [hty]; exact hl0) (by rw [hty]; exact hpb)) hP hD hS hA [0, 1] (by decide) rfl (fun _ => rfl) 0 0 rfl rfl rfl rfl hl.1 rfl ⟨⟨by decide, by decide⟩, by decide, by decide⟩ (Nat.le_of_ble_eq_true rfl) dX12_reads_79 (fun u H locs hw hP hD hS => ?_)
                obtain ⟨u_79, rfl⟩ : ∃ z, z = u := ⟨_, rfl⟩
                have w_79 := hw
                have hP : bP Γ [bMo Γ m u_79, bA Γ (m 7) 150 g, bA Γ (m 8) 350 (upd T1 (7 * M1.2.2.2.2.2.2) (nI wv))] H := hP
                have hD : bD AA [bMo Γ m u_79, bA Γ (m 7) 150 g, bA Γ (m 8) 350 (upd T1 (7 * M1.2.2.2.2.2.2) (nI wv))] := hD
                refine lv_iconst (v := nI 0) zx zb dX12_reads_82 (by decide) ?_
                refine lv_istore_n (lv' := [(2, .int (nI 0)), (1, .int (nI wv)), (0, .ref (m 0))]) zx zb dX12_reads_83 rfl hl (by decide) rfl (fun ls hl => ?_)
                have L84 : ∀ (nn : Nat) (k : Nat) (M2 : MoV) (T2 : Nat → Int32), (rdI g M T2 M2 wv k M1.2.2.1) → nbN wv - k < nn → ∀ (H : Heap) (locs : List Loc), bP Γ [bMo Γ m M2, bA Γ (m 7) 150 g, bA Γ (m 8) 350 T2] H → bD AA [bMo Γ m M2, bA Γ (m 7) 150 g, bA Γ (m 8) 350 T2] → va_S AA ss.heap H locs → ∀ (ls : Array Slot), lv_has ls 3 [(0, .ref (m 0)), (1, .int (nI wv)), (2, .int (nI k))] → W pp l ee { frames := 3, cells := 0, slots := 0, locals := 69 } ss mm [.ref (m 0)].toArray bb me cd H locs 0 0 QQ (F0 mm 84 ls []) := by
                  intro nn
                  induction nn with
                  | zero => intro k M2 T2 hN hm; exact absurd hm (Nat.not_lt_zero _)
                  | succ nn ih84 =>
                    intro k M2 T2 hN hm84 H locs hP hD hS ls hl
                    obtain ⟨ktb, kmb, kpb, kty, kqu, kk9, kp0, kix⟩ := rdI_b hN
                    have hnb := nbN_le wv
                    refine lv_iload_n zx zb dX12_reads_84 rfl (lv_at hl 2 rfl) ?_
                    refine lv_iload_n zx zb dX12_reads_85 rfl (lv_at hl 1 rfl) ?_
                    refine callR_Si (As := [.int (nI wv)]) (rest := [.int (nI k)]) XX cs_X12_153 (c_X12_numbers Γ l wv (hwv.1)) hP hD hS hA nil_mem nil_D rfl hl.1 rfl ⟨⟨by decide, by decide⟩, by decide, by decide⟩ (Nat.le_of_ble_eq_true rfl) dX12_reads_86 (fun r_86 H locs hw hP hS => ?_)
                    have hw := hw.symm
                    subst hw
                    refine lv_icmp_ge (tgt := 132) zx zb dX12_reads_89 (by decide) (fun c_89 => ?_) (fun c_89 => ?_)
                    · have c_89 : nbN wv ≤ k := (nI_leI (a := nbN wv) (b := k) (by omega) (by omega)).mp c_89
                      refine lv_aload_n zx zb dX12_reads_132 rfl (lv_at hl 0 rfl) ?_
                      refine g_get (v := .int (nI (M2.2.2.2.2.1))) XX hP 0 0 rfl rfl rfl iwX12 11 (by decide) fl_X12_133 rfl dX12_reads_133 ?_
                      refine lv_iconst (v := nI 3) zx zb dX12_reads_136 (by decide) ?_
                      refine lv_icmp_eq (tgt := 142) zx zb dX12_reads_137 (by decide) (fun c_137 => ?_) (fun c_137 => ?_)
                      · have c_137 : M2.2.2.2.2.1 = 3 := (nI_eq (a := M2.2.2.2.2.1) (b := 3) (by omega) (by omega)).mp c_137
                        refine lv_aload_n zx zb dX12_reads_142 rfl (lv_at hl 0 rfl) ?_
                        refine lv_dup zx zb dX12_reads_143 rfl ?_
                        refine g_get (v := .int (nI (M2.2.2.2.2.2.2))) XX hP 0 0 rfl rfl rfl iwX12 14 (by decide) fl_X12_147 rfl dX12_reads_144 ?_
                        refine lv_iconst (v := nI 1) zx zb dX12_reads_147 (by decide) ?_
                        refine lv_iadd zx zb dX12_reads_148 ?_
                        refine g_top (y := nI (M2.2.2.2.2.2.2 + 1)) (nI_add M2.2.2.2.2.2.2 1) ?_
                        refine g_put (v := .int (nI (M2.2.2.2.2.2.2 + 1))) (blk' := bMo Γ m (M2.1, M2.2.1, M2.2.2.1, M2.2.2.2.1, M2.2.2.2.2.1, M2.2.2.2.2.2.1, M2.2.2.2.2.2.2 + 1)) (bs' := [bMo Γ m (M2.1, M2.2.1, M2.2.2.1, M2.2.2.2.1, M2.2.2.2.2.1, M2.2.2.2.2.2.1, M2.2.2.2.2.2.2 + 1), bA Γ (m 7) 150 g, bA Γ (m 8) 350 T2]) XX hP hD hS 0 0 rfl rfl rfl iwX12 tyX12_ok nmX12 14 (by decide) fl_X12_147 rfl rfl rfl (Nat.le_of_ble_eq_true rfl) rfl rfl rfl dX12_reads_149 (fun H locs hP hD hS => ?_)
                        refine lv_aload_n zx zb dX12_reads_152 rfl (lv_at hl 0 rfl) ?_
                        refine call_Vv (As := []) (rest := []) XX cv_X12_150 (c_X12_scans Γ l m (M2.1, M2.2.1, M2.2.2.1, M2.2.2.2.1, M2.2.2.2.2.1, M2.2.2.2.2.2.1, M2.2.2.2.2.2.2 + 1) g (show M2.2.1 ≤ 150 by rw [kty]; exact hl0) (show M2.2.2.1 ≤ M2.2.1 by rw [kty]; exact kpb)) hP hD hS hA [0, 1] (by decide) rfl (fun _ => rfl) 0 0 rfl rfl rfl rfl hl.1 rfl ⟨⟨by decide, by decide⟩, by decide, by decide⟩ (Nat.le_of_ble_eq_true rfl) dX12_reads_153 (fun u H locs hw hP hD hS => ?_)
                        obtain ⟨u_153, rfl⟩ : ∃ z, z = u := ⟨_, rfl⟩
                        have w_153 := hw
                        have hP : bP Γ [bMo Γ m u_153, bA Γ (m 7) 150 g, bA Γ (m 8) 350 T2] H := hP
                        have hD : bD AA [bMo Γ m u_153, bA Γ (m 7) 150 g, bA Γ (m 8) 350 T2] := hD
                        refine lv_goto (tgt := 14) zx zb dX12_reads_156 (by decide) ?_
                        exact ih14 u_153 T2 ((rd_s hN c_137 (by omega) w_153.1.1 w_153.1.2.1 w_153.1.2.2 w_153.2).1) (by have h8 := (rd_s hN c_137 (by omega) w_153.1.1 w_153.1.2.1 w_153.1.2.2 w_153.2); have h9 := (rdO_b h8.1).2.2.1; have h7 := h8.2; omega) _ _ hP hD hS _ (lv_sub hl [0] rfl)
                      · have c_137 : ¬ (M2.2.2.2.2.1 = 3) := fun h => c_137 ((nI_eq (a := M2.2.2.2.2.1) (b := 3) (by omega) (by omega)).mpr h)
                        refine lv_iconst (v := nI 0) zx zb dX12_reads_140 (by decide) ?_
                        exact fin _ _ (nI 0) (M2, T2) 141 _ dX12_reads_141 (fun _ => nar0) (rd_f4 hN c_137 (by omega)) hP hD hS
                    · have c_89 : ¬ (nbN wv ≤ k) := fun h => c_89 ((nI_leI (a := nbN wv) (b := k) (by omega) (by omega)).mpr h)
                      refine lv_aload_n zx zb dX12_reads_92 rfl (lv_at hl 0 rfl) ?_
                      refine g_get (v := .int (nI (M2.2.2.2.2.1))) XX hP 0 0 rfl rfl rfl iwX12 11 (by decide) fl_X12_133 rfl dX12_reads_93 ?_
                      refine lv_iconst (v := nI 2) zx zb dX12_reads_96 (by decide) ?_
                      refine lv_icmp_eq (tgt := 102) zx zb dX12_reads_97 (by decide) (fun c_97 => ?_) (fun c_97 => ?_)
                      · have c_97 : M2.2.2.2.2.1 = 2 := (nI_eq (a := M2.2.2.2.2.1) (b := 2) (by omega) (by omega)).mp c_97
                        refine lv_aload_n zx zb dX12_reads_102 rfl (lv_at hl 0 rfl) ?_
                        refine g_get (v := .ref (m 8)) XX hP 0 0 rfl rfl rfl iwX12 13 (by decide) fl_X12_32 rfl dX12_reads_103 ?_
                        refine lv_bipush (v := nI 7) zx zb dX12_reads_106 (by decide) ?_
                        refine lv_aload_n zx zb dX12_reads_108 rfl (lv_at hl 0 rfl) ?_
                        refine g_get (v := .int (nI (M2.2.2.2.2.2.2))) XX hP 0 0 rfl rfl rfl iwX12 14 (by decide) fl_X12_147 rfl dX12_reads_109 ?_
                        refine lv_imul zx zb dX12_reads_112 ?_
                        refine g_top (y := nI (7 * M2.2.2.2.2.2.2)) (pk_mul 7 M2.2.2.2.2.2.2) ?_
                        refine lv_iconst (v := nI 1) zx zb dX12_reads_113 (by decide) ?_
                        refine lv_iadd zx zb dX12_reads_114 ?_
                        refine g_top (y := nI (7 * M2.2.2.2.2.2.2 + 1)) (nI_add (7 * M2.2.2.2.2.2.2) 1) ?_
                        refine lv_iload_n zx zb dX12_reads_115 rfl (lv_at hl 2 rfl) ?_
                        refine lv_iadd zx zb dX12_reads_116 ?_
                        refine g_top (y := nI (7 * M2.2.2.2.2.2.2 + 1 + k)) (nI_add (7 * M2.2.2.2.2.2.2 + 1) k) ?_
                        refine lv_aload_n zx zb dX12_reads_117 rfl (lv_at hl 0 rfl) ?_
                        refine g_get (v := .int (nI (M2.2.2.2.2.2.1))) XX hP 0 0 rfl rfl rfl iwX12 12 (by decide) fl_X12_144 rfl dX12_reads_118 ?_
                        refine g_iastN (x := nI (M2.2.2.2.2.2.1)) (i := 7 * M2.2.2.2.2.2.2 + 1 + k) (blk' := bA Γ (m 8) 350 (upd T2 (7 * M2.2.2.2.2.2.2 + 1 + k) (nI (M2.2.2.2.2.2.1)))) (bs' := [bMo Γ m M2, bA Γ (m 7) 150 g, bA Γ (m 8) 350 (upd T2 (7 * M2.2.2.2.2.2.2 + 1 + k) (nI (M2.2.2.2.2.2.1)))]) XX hP hD hS 2 0 rfl rfl (by have hx9 := kix c_97; omega) (by decide) rfl rfl dX12_reads_121 (fun H locs hP hD hS => ?_)
                        refine lv_aload_n zx zb dX12_reads_122 rfl (lv_at hl 0 rfl) ?_
                        refine call_Vv (As := []) (rest := []) XX cv_X12_150 (c_X12_scans Γ l m M2 g (by rw [kty]; exact hl0) (by rw [kty]; exact kpb)) hP hD hS hA [0, 1] (by decide) rfl (fun _ => rfl) 0 0 rfl rfl rfl rfl hl.1 rfl ⟨⟨by decide, by decide⟩, by decide, by decide⟩ (Nat.le_of_ble_eq_true rfl) dX12_reads_123 (fun u H locs hw hP hD hS => ?_)
                        obtain ⟨u_123, rfl⟩ : ∃ z, z = u := ⟨_, rfl⟩
                        have w_123 := hw
                        have hP : bP Γ [bMo Γ m u_123, bA Γ (m 7) 150 g, bA Γ (m 8) 350 (upd T2 (7 * M2.2.2.2.2.2.2 + 1 + k) (nI (M2.2.2.2.2.2.1)))] H := hP
                        have hD : bD AA [bMo Γ m u_123, bA Γ (m 7) 150 g, bA Γ (m 8) 350 (upd T2 (7 * M2.2.2.2.2.2.2 + 1 + k) (nI (M2.2.2.2.2.2.1)))] := hD
                        refine lv_iinc (v := nI (k + 1)) (lv' := [(2, .int (nI (k + 1))), (0, .ref (m 0)), (1, .int (nI wv))]) zx zb dX12_reads_126 hl (k := 2) rfl (nI_inc _ 1) (by decide) rfl (fun ls hl => ?_)
                        refine lv_goto (tgt := 84) zx zb dX12_reads_129 (by decide) ?_
                        exact ih84 (k + 1) u_123 (upd T2 (7 * M2.2.2.2.2.2.2 + 1 + k) (nI (M2.2.2.2.2.2.1))) (rd_n hN c_97 (by omega) w_123.1.1 w_123.1.2.1 w_123.1.2.2 w_123.2) (by omega) _ _ hP hD hS _ (lv_sub hl [1, 2, 0] rfl)
                      · have c_97 : ¬ (M2.2.2.2.2.1 = 2) := fun h => c_97 ((nI_eq (a := M2.2.2.2.2.1) (b := 2) (by omega) (by omega)).mpr h)
                        refine lv_iconst (v := nI 0) zx zb dX12_reads_100 (by decide) ?_
                        exact fin _ _ (nI 0) (M2, T2) 101 _ dX12_reads_101 (fun _ => nar0) (rd_f3 hN c_97 (by omega)) hP hD hS
                exact L84 _ 0 u_79 (upd T1 (7 * M1.2.2.2.2.2.2) (nI wv)) (rd_i hO hwv.2 hwv.1 (by omega) w_79.1.1 w_79.1.2.1 w_79.1.2.2 w_79.2) (Nat.lt_succ_self _) _ _ hP hD hS _ (lv_sub hl [2, 1, 0] rfl)
              · exact absurd c_60 (by decide)
      · have c_18 : M1.2.2.2.2.1 = 0 := (nI_eq (a := M1.2.2.2.2.1) (b := 0) (by omega) (by omega)).mp c_18
        refine lv_aload_n zx zb dX12_reads_21 rfl (lv_at hl 0 rfl) ?_
        refine g_get (v := .int (nI (M1.2.2.2.2.2.2))) XX hP 0 0 rfl rfl rfl iwX12 14 (by decide) fl_X12_147 rfl dX12_reads_22 ?_
        refine lv_if_ne (tgt := 159) zx zb dX12_reads_25 (by decide) (fun c_25 => ?_) (fun c_25 => ?_)
        · have c_25 : ¬ (M1.2.2.2.2.2.2 = 0) := fun h => c_25 ((nI_eq (a := M1.2.2.2.2.2.2) (b := 0) (by omega) (by omega)).mpr h)
          refine lv_iconst (v := nI 1) zx zb dX12_reads_159 (by decide) ?_
          exact fin _ _ (nI 1) (M1, T1) 160 _ dX12_reads_160 (fun _ => nar1) (rd_t hO c_18 c_25) hP hD hS
        · have c_25 : M1.2.2.2.2.2.2 = 0 := (nI_eq (a := M1.2.2.2.2.2.2) (b := 0) (by omega) (by omega)).mp c_25
          refine lv_aload_n zx zb dX12_reads_28 rfl (lv_at hl 0 rfl) ?_
          refine g_get (v := .int (nI (M1.2.2.2.2.1))) XX hP 0 0 rfl rfl rfl iwX12 11 (by decide) fl_X12_133 rfl dX12_reads_29 ?_
          refine lv_iconst (v := nI 4) zx zb dX12_reads_32 (by decide) ?_
          obtain ⟨vb, hvb⟩ : ∃ z : Int32, z = nI M1.2.2.2.2.1 - 4 := ⟨_, rfl⟩
          refine lv_isub zx zb dX12_reads_33 ?_
          refine g_top (y := (nI (M1.2.2.2.2.1)) - 4) rfl ?_
          refine g_top (y := vb) (hvb.symm) ?_
          refine lv_istore_n (lv' := [(1, .int vb), (0, .ref (m 0))]) zx zb dX12_reads_34 rfl hl (by decide) rfl (fun ls hl => ?_)
          refine lv_iload_n zx zb dX12_reads_35 rfl (lv_at hl 0 rfl) ?_
          refine lv_if_lt (tgt := 63) zx zb dX12_reads_36 (by decide) (fun c_36 => ?_) (fun c_36 => ?_)
          · have c_36 : vb < (0 : Int32) := c_36
            refine lv_iconst (v := nI 0) zx zb dX12_reads_63 (by decide) ?_
            exact fin _ _ (nI 0) (M1, T1) 64 _ dX12_reads_64 (fun _ => nar0) (show rdE g M (nI 0) M1 T1 by first | exact rd_f1 hO hvb c_36 (fun h => by omega) | exact rd_f2 hO hwv.2 (by omega)) hP hD hS
          · have c_36 : ¬ (vb < (0 : Int32)) := c_36
            obtain ⟨wv, hwv, rfl⟩ := rd_w hO hvb c_36
            refine lv_iload_n zx zb dX12_reads_39 rfl (lv_at hl 0 rfl) ?_
            refine lv_if_ne (tgt := 47) zx zb dX12_reads_40 (by decide) (fun c_40 => ?_) (fun c_40 => ?_)
            · have c_40 : ¬ (wv = 0) := fun h => c_40 ((nI_eq (a := wv) (b := 0) (by omega) (by omega)).mpr h)
              refine lv_iconst (v := nI 0) zx zb dX12_reads_47 (by decide) ?_
              refine lv_aload_n zx zb dX12_reads_48 rfl (lv_at hl 1 rfl) ?_
              refine g_get (v := .int (nI (M1.2.2.2.2.2.2))) XX hP 0 0 rfl rfl rfl iwX12 14 (by decide) fl_X12_147 rfl dX12_reads_49 ?_
              refine lv_if_ne (tgt := 59) zx zb dX12_reads_52 (by decide) (fun c_52 => ?_) (fun c_52 => ?_)
              · have c_52 : ¬ (M1.2.2.2.2.2.2 = 0) := fun h => c_52 ((nI_eq (a := M1.2.2.2.2.2.2) (b := 0) (by omega) (by omega)).mpr h)
                refine lv_iconst (v := nI 0) zx zb dX12_reads_59 (by decide) ?_
                refine lv_icmp_eq (tgt := 65) zx zb dX12_reads_60 (by decide) (fun c_60 => ?_) (fun c_60 => ?_)
                · clear c_60
                  refine lv_aload_n zx zb dX12_reads_65 rfl (lv_at hl 1 rfl) ?_
                  refine g_get (v := .ref (m 8)) XX hP 0 0 rfl rfl rfl iwX12 13 (by decide) fl_X12_32 rfl dX12_reads_66 ?_
                  refine lv_bipush (v := nI 7) zx zb dX12_reads_69 (by decide) ?_
                  refine lv_aload_n zx zb dX12_reads_71 rfl (lv_at hl 1 rfl) ?_
                  refine g_get (v := .int (nI (M1.2.2.2.2.2.2))) XX hP 0 0 rfl rfl rfl iwX12 14 (by decide) fl_X12_147 rfl dX12_reads_72 ?_
                  refine lv_imul zx zb dX12_reads_75 ?_
                  refine g_top (y := nI (7 * M1.2.2.2.2.2.2)) (pk_mul 7 M1.2.2.2.2.2.2) ?_
                  refine lv_iload_n zx zb dX12_reads_76 rfl (lv_at hl 0 rfl) ?_
                  refine g_iastN (x := nI wv) (i := 7 * M1.2.2.2.2.2.2) (blk' := bA Γ (m 8) 350 (upd T1 (7 * M1.2.2.2.2.2.2) (nI wv))) (bs' := [bMo Γ m M1, bA Γ (m 7) 150 g, bA Γ (m 8) 350 (upd T1 (7 * M1.2.2.2.2.2.2) (nI wv))]) XX hP hD hS 2 0 rfl rfl (by have hx9 : 7 * M1.2.2.2.2.2.2 < 350 := rd_ix hO hwv.2 hl0; omega) (by decide) rfl rfl dX12_reads_77 (fun H locs hP hD hS => ?_)
                  refine lv_aload_n zx zb dX12_reads_78 rfl (lv_at hl 1 rfl) ?_
                  refine call_Vv (As := []) (rest := []) XX cv_X12_150 (c_X12_scans Γ l m M1 g (by rw [hty]; exact hl0) (by rw [hty]; exact hpb)) hP hD hS hA [0, 1] (by decide) rfl (fun _ => rfl) 0 0 rfl rfl rfl rfl hl.1 rfl ⟨⟨by decide, by decide⟩, by decide, by decide⟩ (Nat.le_of_ble_eq_true rfl) dX12_reads_79 (fun u H locs hw hP hD hS => ?_)
                  obtain ⟨u_79, rfl⟩ : ∃ z, z = u := ⟨_, rfl⟩
                  have w_79 := hw
                  have hP : bP Γ [bMo Γ m u_79, bA Γ (m 7) 150 g, bA Γ (m 8) 350 (upd T1 (7 * M1.2.2.2.2.2.2) (nI wv))] H := hP
                  have hD : bD AA [bMo Γ m u_79, bA Γ (m 7) 150 g, bA Γ (m 8) 350 (upd T1 (7 * M1.2.2.2.2.2.2) (nI wv))] := hD
                  refine lv_iconst (v := nI 0) zx zb dX12_reads_82 (by decide) ?_
                  refine lv_istore_n (lv' := [(2, .int (nI 0)), (1, .int (nI wv)), (0, .ref (m 0))]) zx zb dX12_reads_83 rfl hl (by decide) rfl (fun ls hl => ?_)
                  have L84 : ∀ (nn : Nat) (k : Nat) (M2 : MoV) (T2 : Nat → Int32), (rdI g M T2 M2 wv k M1.2.2.1) → nbN wv - k < nn → ∀ (H : Heap) (locs : List Loc), bP Γ [bMo Γ m M2, bA Γ (m 7) 150 g, bA Γ (m 8) 350 T2] H → bD AA [bMo Γ m M2, bA Γ (m 7) 150 g, bA Γ (m 8) 350 T2] → va_S AA ss.heap H locs → ∀ (ls : Array Slot), lv_has ls 3 [(0, .ref (m 0)), (1, .int (nI wv)), (2, .int (nI k))] → W pp l ee { frames := 3, cells := 0, slots := 0, locals := 69 } ss mm [.ref (m 0)].toArray bb me cd H locs 0 0 QQ (F0 mm 84 ls []) := by
                    intro nn
                    induction nn with
                    | zero => intro k M2 T2 hN hm; exact absurd hm (Nat.not_lt_zero _)
                    | succ nn ih84 =>
                      intro k M2 T2 hN hm84 H locs hP hD hS ls hl
                      obtain ⟨ktb, kmb, kpb, kty, kqu, kk9, kp0, kix⟩ := rdI_b hN
                      have hnb := nbN_le wv
                      refine lv_iload_n zx zb dX12_reads_84 rfl (lv_at hl 2 rfl) ?_
                      refine lv_iload_n zx zb dX12_reads_85 rfl (lv_at hl 1 rfl) ?_
                      refine callR_Si (As := [.int (nI wv)]) (rest := [.int (nI k)]) XX cs_X12_153 (c_X12_numbers Γ l wv (hwv.1)) hP hD hS hA nil_mem nil_D rfl hl.1 rfl ⟨⟨by decide, by decide⟩, by decide, by decide⟩ (Nat.le_of_ble_eq_true rfl) dX12_reads_86 (fun r_86 H locs hw hP hS => ?_)
                      have hw := hw.symm
                      subst hw
                      refine lv_icmp_ge (tgt := 132) zx zb dX12_reads_89 (by decide) (fun c_89 => ?_) (fun c_89 => ?_)
                      · have c_89 : nbN wv ≤ k := (nI_leI (a := nbN wv) (b := k) (by omega) (by omega)).mp c_89
                        refine lv_aload_n zx zb dX12_reads_132 rfl (lv_at hl 0 rfl) ?_
                        refine g_get (v := .int (nI (M2.2.2.2.2.1))) XX hP 0 0 rfl rfl rfl iwX12 11 (by decide) fl_X12_133 rfl dX12_reads_133 ?_
                        refine lv_iconst (v := nI 3) zx zb dX12_reads_136 (by decide) ?_
                        refine lv_icmp_eq (tgt := 142) zx zb dX12_reads_137 (by decide) (fun c_137 => ?_) (fun c_137 => ?_)
                        · have c_137 : M2.2.2.2.2.1 = 3 := (nI_eq (a := M2.2.2.2.2.1) (b := 3) (by omega) (by omega)).mp c_137
                          refine lv_aload_n zx zb dX12_reads_142 rfl (lv_at hl 0 rfl) ?_
                          refine lv_dup zx zb dX12_reads_143 rfl ?_
                          refine g_get (v := .int (nI (M2.2.2.2.2.2.2))) XX hP 0 0 rfl rfl rfl iwX12 14 (by decide) fl_X12_147 rfl dX12_reads_144 ?_
                          refine lv_iconst (v := nI 1) zx zb dX12_reads_147 (by decide) ?_
                          refine lv_iadd zx zb dX12_reads_148 ?_
                          refine g_top (y := nI (M2.2.2.2.2.2.2 + 1)) (nI_add M2.2.2.2.2.2.2 1) ?_
                          refine g_put (v := .int (nI (M2.2.2.2.2.2.2 + 1))) (blk' := bMo Γ m (M2.1, M2.2.1, M2.2.2.1, M2.2.2.2.1, M2.2.2.2.2.1, M2.2.2.2.2.2.1, M2.2.2.2.2.2.2 + 1)) (bs' := [bMo Γ m (M2.1, M2.2.1, M2.2.2.1, M2.2.2.2.1, M2.2.2.2.2.1, M2.2.2.2.2.2.1, M2.2.2.2.2.2.2 + 1), bA Γ (m 7) 150 g, bA Γ (m 8) 350 T2]) XX hP hD hS 0 0 rfl rfl rfl iwX12 tyX12_ok nmX12 14 (by decide) fl_X12_147 rfl rfl rfl (Nat.le_of_ble_eq_true rfl) rfl rfl rfl dX12_reads_149 (fun H locs hP hD hS => ?_)
                          refine lv_aload_n zx zb dX12_reads_152 rfl (lv_at hl 0 rfl) ?_
                          refine call_Vv (As := []) (rest := []) XX cv_X12_150 (c_X12_scans Γ l m (M2.1, M2.2.1, M2.2.2.1, M2.2.2.2.1, M2.2.2.2.2.1, M2.2.2.2.2.2.1, M2.2.2.2.2.2.2 + 1) g (show M2.2.1 ≤ 150 by rw [kty]; exact hl0) (show M2.2.2.1 ≤ M2.2.1 by rw [kty]; exact kpb)) hP hD hS hA [0, 1] (by decide) rfl (fun _ => rfl) 0 0 rfl rfl rfl rfl hl.1 rfl ⟨⟨by decide, by decide⟩, by decide, by decide⟩ (Nat.le_of_ble_eq_true rfl) dX12_reads_153 (fun u H locs hw hP hD hS => ?_)
                          obtain ⟨u_153, rfl⟩ : ∃ z, z = u := ⟨_, rfl⟩
                          have w_153 := hw
                          have hP : bP Γ [bMo Γ m u_153, bA Γ (m 7) 150 g, bA Γ (m 8) 350 T2] H := hP
                          have hD : bD AA [bMo Γ m u_153, bA Γ (m 7) 150 g, bA Γ (m 8) 350 T2] := hD
                          refine lv_goto (tgt := 14) zx zb dX12_reads_156 (by decide) ?_
                          exact ih14 u_153 T2 ((rd_s hN c_137 (by omega) w_153.1.1 w_153.1.2.1 w_153.1.2.2 w_153.2).1) (by have h8 := (rd_s hN c_137 (by omega) w_153.1.1 w_153.1.2.1 w_153.1.2.2 w_153.2); have h9 := (rdO_b h8.1).2.2.1; have h7 := h8.2; omega) _ _ hP hD hS _ (lv_sub hl [0] rfl)
                        · have c_137 : ¬ (M2.2.2.2.2.1 = 3) := fun h => c_137 ((nI_eq (a := M2.2.2.2.2.1) (b := 3) (by omega) (by omega)).mpr h)
                          refine lv_iconst (v := nI 0) zx zb dX12_reads_140 (by decide) ?_
                          exact fin _ _ (nI 0) (M2, T2) 141 _ dX12_reads_141 (fun _ => nar0) (rd_f4 hN c_137 (by omega)) hP hD hS
                      · have c_89 : ¬ (nbN wv ≤ k) := fun h => c_89 ((nI_leI (a := nbN wv) (b := k) (by omega) (by omega)).mpr h)
                        refine lv_aload_n zx zb dX12_reads_92 rfl (lv_at hl 0 rfl) ?_
                        refine g_get (v := .int (nI (M2.2.2.2.2.1))) XX hP 0 0 rfl rfl rfl iwX12 11 (by decide) fl_X12_133 rfl dX12_reads_93 ?_
                        refine lv_iconst (v := nI 2) zx zb dX12_reads_96 (by decide) ?_
                        refine lv_icmp_eq (tgt := 102) zx zb dX12_reads_97 (by decide) (fun c_97 => ?_) (fun c_97 => ?_)
                        · have c_97 : M2.2.2.2.2.1 = 2 := (nI_eq (a := M2.2.2.2.2.1) (b := 2) (by omega) (by omega)).mp c_97
                          refine lv_aload_n zx zb dX12_reads_102 rfl (lv_at hl 0 rfl) ?_
                          refine g_get (v := .ref (m 8)) XX hP 0 0 rfl rfl rfl iwX12 13 (by decide) fl_X12_32 rfl dX12_reads_103 ?_
                          refine lv_bipush (v := nI 7) zx zb dX12_reads_106 (by decide) ?_
                          refine lv_aload_n zx zb dX12_reads_108 rfl (lv_at hl 0 rfl) ?_
                          refine g_get (v := .int (nI (M2.2.2.2.2.2.2))) XX hP 0 0 rfl rfl rfl iwX12 14 (by decide) fl_X12_147 rfl dX12_reads_109 ?_
                          refine lv_imul zx zb dX12_reads_112 ?_
                          refine g_top (y := nI (7 * M2.2.2.2.2.2.2)) (pk_mul 7 M2.2.2.2.2.2.2) ?_
                          refine lv_iconst (v := nI 1) zx zb dX12_reads_113 (by decide) ?_
                          refine lv_iadd zx zb dX12_reads_114 ?_
                          refine g_top (y := nI (7 * M2.2.2.2.2.2.2 + 1)) (nI_add (7 * M2.2.2.2.2.2.2) 1) ?_
                          refine lv_iload_n zx zb dX12_reads_115 rfl (lv_at hl 2 rfl) ?_
                          refine lv_iadd zx zb dX12_reads_116 ?_
                          refine g_top (y := nI (7 * M2.2.2.2.2.2.2 + 1 + k)) (nI_add (7 * M2.2.2.2.2.2.2 + 1) k) ?_
                          refine lv_aload_n zx zb dX12_reads_117 rfl (lv_at hl 0 rfl) ?_
                          refine g_get (v := .int (nI (M2.2.2.2.2.2.1))) XX hP 0 0 rfl rfl rfl iwX12 12 (by decide) fl_X12_144 rfl dX12_reads_118 ?_
                          refine g_iastN (x := nI (M2.2.2.2.2.2.1)) (i := 7 * M2.2.2.2.2.2.2 + 1 + k) (blk' := bA Γ (m 8) 350 (upd T2 (7 * M2.2.2.2.2.2.2 + 1 + k) (nI (M2.2.2.2.2.2.1)))) (bs' := [bMo Γ m M2, bA Γ (m 7) 150 g, bA Γ (m 8) 350 (upd T2 (7 * M2.2.2.2.2.2.2 + 1 + k) (nI (M2.2.2.2.2.2.1)))]) XX hP hD hS 2 0 rfl rfl (by have hx9 := kix c_97; omega) (by decide) rfl rfl dX12_reads_121 (fun H locs hP hD hS => ?_)
                          refine lv_aload_n zx zb dX12_reads_122 rfl (lv_at hl 0 rfl) ?_
                          refine call_Vv (As := []) (rest := []) XX cv_X12_150 (c_X12_scans Γ l m M2 g (by rw [kty]; exact hl0) (by rw [kty]; exact kpb)) hP hD hS hA [0, 1] (by decide) rfl (fun _ => rfl) 0 0 rfl rfl rfl rfl hl.1 rfl ⟨⟨by decide, by decide⟩, by decide, by decide⟩ (Nat.le_of_ble_eq_true rfl) dX12_reads_123 (fun u H locs hw hP hD hS => ?_)
                          obtain ⟨u_123, rfl⟩ : ∃ z, z = u := ⟨_, rfl⟩
                          have w_123 := hw
                          have hP : bP Γ [bMo Γ m u_123, bA Γ (m 7) 150 g, bA Γ (m 8) 350 (upd T2 (7 * M2.2.2.2.2.2.2 + 1 + k) (nI (M2.2.2.2.2.2.1)))] H := hP
                          have hD : bD AA [bMo Γ m u_123, bA Γ (m 7) 150 g, bA Γ (m 8) 350 (upd T2 (7 * M2.2.2.2.2.2.2 + 1 + k) (nI (M2.2.2.2.2.2.1)))] := hD
                          refine lv_iinc (v := nI (k + 1)) (lv' := [(2, .int (nI (k + 1))), (0, .ref (m 0)), (1, .int (nI wv))]) zx zb dX12_reads_126 hl (k := 2) rfl (nI_inc _ 1) (by decide) rfl (fun ls hl => ?_)
                          refine lv_goto (tgt := 84) zx zb dX12_reads_129 (by decide) ?_
                          exact ih84 (k + 1) u_123 (upd T2 (7 * M2.2.2.2.2.2.2 + 1 + k) (nI (M2.2.2.2.2.2.1))) (rd_n hN c_97 (by omega) w_123.1.1 w_123.1.2.1 w_123.1.2.2 w_123.2) (by omega) _ _ hP hD hS _ (lv_sub hl [1, 2, 0] rfl)
                        · have c_97 : ¬ (M2.2.2.2.2.1 = 2) := fun h => c_97 ((nI_eq (a := M2.2.2.2.2.1) (b := 2) (by omega) (by omega)).mpr h)
                          refine lv_iconst (v := nI 0) zx zb dX12_reads_100 (by decide) ?_
                          exact fin _ _ (nI 0) (M2, T2) 101 _ dX12_reads_101 (fun _ => nar0) (rd_f3 hN c_97 (by omega)) hP hD hS
                  exact L84 _ 0 u_79 (upd T1 (7 * M1.2.2.2.2.2.2) (nI wv)) (rd_i hO hwv.2 hwv.1 (by omega) w_79.1.1 w_79.1.2.1 w_79.1.2.2 w_79.2) (Nat.lt_succ_self _) _ _ hP hD hS _ (lv_sub hl [2, 1, 0] rfl)
                · exact absurd c_60 (by decide)
              · have c_52 : M1.2.2.2.2.2.2 = 0 := (nI_eq (a := M1.2.2.2.2.2.2) (b := 0) (by omega) (by omega)).mp c_52
                refine lv_iconst (v := nI 1) zx zb dX12_reads_55 (by decide) ?_
                refine lv_goto (tgt := 60) zx zb dX12_reads_56 (by decide) ?_
                refine lv_icmp_eq (tgt := 65) zx zb dX12_reads_60 (by decide) (fun c_60 => ?_) (fun c_60 => ?_)
                · exact absurd c_60 (by decide)
                · clear c_60
                  refine lv_iconst (v := nI 0) zx zb dX12_reads_63 (by decide) ?_
                  exact fin _ _ (nI 0) (M1, T1) 64 _ dX12_reads_64 (fun _ => nar0) (show rdE g M (nI 0) M1 T1 by first | exact rd_f1 hO hvb c_36 (fun h => by omega) | exact rd_f2 hO hwv.2 (by omega)) hP hD hS
            · have c_40 : wv = 0 := (nI_eq (a := wv) (b := 0) (by omega) (by omega)).mp c_40
              refine lv_iconst (v := nI 1) zx zb dX12_reads_43 (by decide) ?_
              refine lv_goto (tgt := 48) zx zb dX12_reads_44 (by decide) ?_
              refine lv_aload_n zx zb dX12_reads_48 rfl (lv_at hl 1 rfl) ?_
              refine g_get (v := .int (nI (M1.2.2.2.2.2.2))) XX hP 0 0 rfl rfl rfl iwX12 14 (by decide) fl_X12_147 rfl dX12_reads_49 ?_
              refine lv_if_ne (tgt := 59) zx zb dX12_reads_52 (by decide) (fun c_52 => ?_) (fun c_52 => ?_)
              · have c_52 : ¬ (M1.2.2.2.2.2.2 = 0) := fun h => c_52 ((nI_eq (a := M1.2.2.2.2.2.2) (b := 0) (by omega) (by omega)).mpr h)
                refine lv_iconst (v := nI 0) zx zb dX12_reads_59 (by decide) ?_
                refine lv_icmp_eq (tgt := 65) zx zb dX12_reads_60 (by decide) (fun c_60 => ?_) (fun c_60 => ?_)
                · exact absurd c_60 (by decide)
                · clear c_60
                  refine lv_iconst (v := nI 0) zx zb dX12_reads_63 (by decide) ?_
                  exact fin _ _ (nI 0) (M1, T1) 64 _ dX12_reads_64 (fun _ => nar0) (show rdE g M (nI 0) M1 T1 by first | exact rd_f1 hO hvb c_36 (fun h => by omega) | exact rd_f2 hO hwv.2 (by omega)) hP hD hS
              · have c_52 : M1.2.2.2.2.2.2 = 0 := (nI_eq (a := M1.2.2.2.2.2.2) (b := 0) (by omega) (by omega)).mp c_52
                refine lv_iconst (v := nI 1) zx zb dX12_reads_55 (by decide) ?_
                refine lv_goto (tgt := 60) zx zb dX12_reads_56 (by decide) ?_
                refine lv_icmp_eq (tgt := 65) zx zb dX12_reads_60 (by decide) (fun c_60 => ?_) (fun c_60 => ?_)
                · clear c_60
                  refine lv_aload_n zx zb dX12_reads_65 rfl (lv_at hl 1 rfl) ?_
                  refine g_get (v := .ref (m 8)) XX hP 0 0 rfl rfl rfl iwX12 13 (by decide) fl_X12_32 rfl dX12_reads_66 ?_
                  refine lv_bipush (v := nI 7) zx zb dX12_reads_69 (by decide) ?_
                  refine lv_aload_n zx zb dX12_reads_71 rfl (lv_at hl 1 rfl) ?_
                  refine g_get (v := .int (nI (M1.2.2.2.2.2.2))) XX hP 0 0 rfl rfl rfl iwX12 14 (by decide) fl_X12_147 rfl dX12_reads_72 ?_
                  refine lv_imul zx zb dX12_reads_75 ?_
                  refine g_top (y := nI (7 * M1.2.2.2.2.2.2)) (pk_mul 7 M1.2.2.2.2.2.2) ?_
                  refine lv_iload_n zx zb dX12_reads_76 rfl (lv_at hl 0 rfl) ?_
                  refine g_iastN (x := nI wv) (i := 7 * M1.2.2.2.2.2.2) (blk' := bA Γ (m 8) 350 (upd T1 (7 * M1.2.2.2.2.2.2) (nI wv))) (bs' := [bMo Γ m M1, bA Γ (m 7) 150 g, bA Γ (m 8) 350 (upd T1 (7 * M1.2.2.2.2.2.2) (nI wv))]) XX hP hD hS 2 0 rfl rfl (by have hx9 : 7 * M1.2.2.2.2.2.2 < 350 := rd_ix hO hwv.2 hl0; omega) (by decide) rfl rfl dX12_reads_77 (fun H locs hP hD hS => ?_)
                  refine lv_aload_n zx zb dX12_reads_78 rfl (lv_at hl 1 rfl) ?_
                  refine call_Vv (As := []) (rest := []) XX cv_X12_150 (c_X12_scans Γ l m M1 g (by rw [hty]; exact hl0) (by rw [hty]; exact hpb)) hP hD hS hA [0, 1] (by decide) rfl (fun _ => rfl) 0 0 rfl rfl rfl rfl hl.1 rfl ⟨⟨by decide, by decide⟩, by decide, by decide⟩ (Nat.le_of_ble_eq_true rfl) dX12_reads_79 (fun u H locs hw hP hD hS => ?_)
                  obtain ⟨u_79, rfl⟩ : ∃ z, z = u := ⟨_, rfl⟩
                  have w_79 := hw
                  have hP : bP Γ [bMo Γ m u_79, bA Γ (m 7) 150 g, bA Γ (m 8) 350 (upd T1 (7 * M1.2.2.2.2.2.2) (nI wv))] H := hP
                  have hD : bD AA [bMo Γ m u_79, bA Γ (m 7) 150 g, bA Γ (m 8) 350 (upd T1 (7 * M1.2.2.2.2.2.2) (nI wv))] := hD
                  refine lv_iconst (v := nI 0) zx zb dX12_reads_82 (by decide) ?_
                  refine lv_istore_n (lv' := [(2, .int (nI 0)), (1, .int (nI wv)), (0, .ref (m 0))]) zx zb dX12_reads_83 rfl hl (by decide) rfl (fun ls hl => ?_)
                  have L84 : ∀ (nn : Nat) (k : Nat) (M2 : MoV) (T2 : Nat → Int32), (rdI g M T2 M2 wv k M1.2.2.1) → nbN wv - k < nn → ∀ (H : Heap) (locs : List Loc), bP Γ [bMo Γ m M2, bA Γ (m 7) 150 g, bA Γ (m 8) 350 T2] H → bD AA [bMo Γ m M2, bA Γ (m 7) 150 g, bA Γ (m 8) 350 T2] → va_S AA ss.heap H locs → ∀ (ls : Array Slot), lv_has ls 3 [(0, .ref (m 0)), (1, .int (nI wv)), (2, .int (nI k))] → W pp l ee { frames := 3, cells := 0, slots := 0, locals := 69 } ss mm [.ref (m 0)].toArray bb me cd H locs 0 0 QQ (F0 mm 84 ls []) := by
                    intro nn
                    induction nn with
                    | zero => intro k M2 T2 hN hm; exact absurd hm (Nat.not_lt_zero _)
                    | succ nn ih84 =>
                      intro k M2 T2 hN hm84 H locs hP hD hS ls hl
                      obtain ⟨ktb, kmb, kpb, kty, kqu, kk9, kp0, kix⟩ := rdI_b hN
                      have hnb := nbN_le wv
                      refine lv_iload_n zx zb dX12_reads_84 rfl (lv_at hl 2 rfl) ?_
                      refine lv_iload_n zx zb dX12_reads_85 rfl (lv_at hl 1 rfl) ?_
                      refine callR_Si (As := [.int (nI wv)]) (rest := [.int (nI k)]) XX cs_X12_153 (c_X12_numbers Γ l wv (hwv.1)) hP hD hS hA nil_mem nil_D rfl hl.1 rfl ⟨⟨by decide, by decide⟩, by decide, by decide⟩ (Nat.le_of_ble_eq_true rfl) dX12_reads_86 (fun r_86 H locs hw hP hS => ?_)
                      have hw := hw.symm
                      subst hw
                      refine lv_icmp_ge (tgt := 132) zx zb dX12_reads_89 (by decide) (fun c_89 => ?_) (fun c_89 => ?_)
                      · have c_89 : nbN wv ≤ k := (nI_leI (a := nbN wv) (b := k) (by omega) (by omega)).mp c_89
                        refine lv_aload_n zx zb dX12_reads_132 rfl (lv_at hl 0 rfl) ?_
                        refine g_get (v := .int (nI (M2.2.2.2.2.1))) XX hP 0 0 rfl rfl rfl iwX12 11 (by decide) fl_X12_133 rfl dX12_reads_133 ?_
                        refine lv_iconst (v := nI 3) zx zb dX12_reads_136 (by decide) ?_
                        refine lv_icmp_eq (tgt := 142) zx zb dX12_reads_137 (by decide) (fun c_137 => ?_) (fun c_137 => ?_)
                        · have c_137 : M2.2.2.2.2.1 = 3 := (nI_eq (a := M2.2.2.2.2.1) (b := 3) (by omega) (by omega)).mp c_137
                          refine lv_aload_n zx zb dX12_reads_142 rfl (lv_at hl 0 rfl) ?_
                          refine lv_dup zx zb dX12_reads_143 rfl ?_
                          refine g_get (v := .int (nI (M2.2.2.2.2.2.2))) XX hP 0 0 rfl rfl rfl iwX12 14 (by decide) fl_X12_147 rfl dX12_reads_144 ?_
                          refine lv_iconst (v := nI 1) zx zb dX12_reads_147 (by decide) ?_
                          refine lv_iadd zx zb dX12_reads_148 ?_
                          refine g_top (y := nI (M2.2.2.2.2.2.2 + 1)) (nI_add M2.2.2.2.2.2.2 1) ?_
                          refine g_put (v := .int (nI (M2.2.2.2.2.2.2 + 1))) (blk' := bMo Γ m (M2.1, M2.2.1, M2.2.2.1, M2.2.2.2.1, M2.2.2.2.2.1, M2.2.2.2.2.2.1, M2.2.2.2.2.2.2 + 1)) (bs' := [bMo Γ m (M2.1, M2.2.1, M2.2.2.1, M2.2.2.2.1, M2.2.2.2.2.1, M2.2.2.2.2.2.1, M2.2.2.2.2.2.2 + 1), bA Γ (m 7) 150 g, bA Γ (m 8) 350 T2]) XX hP hD hS 0 0 rfl rfl rfl iwX12 tyX12_ok nmX12 14 (by decide) fl_X12_147 rfl rfl rfl (Nat.le_of_ble_eq_true rfl) rfl rfl rfl dX12_reads_149 (fun H locs hP hD hS => ?_)
                          refine lv_aload_n zx zb dX12_reads_152 rfl (lv_at hl 0 rfl) ?_
                          refine call_Vv (As := []) (rest := []) XX cv_X12_150 (c_X12_scans Γ l m (M2.1, M2.2.1, M2.2.2.1, M2.2.2.2.1, M2.2.2.2.2.1, M2.2.2.2.2.2.1, M2.2.2.2.2.2.2 + 1) g (show M2.2.1 ≤ 150 by rw [kty]; exact hl0) (show M2.2.2.1 ≤ M2.2.1 by rw [kty]; exact kpb)) hP hD hS hA [0, 1] (by decide) rfl (fun _ => rfl) 0 0 rfl rfl rfl rfl hl.1 rfl ⟨⟨by decide, by decide⟩, by decide, by decide⟩ (Nat.le_of_ble_eq_true rfl) dX12_reads_153 (fun u H locs hw hP hD hS => ?_)
                          obtain ⟨u_153, rfl⟩ : ∃ z, z = u := ⟨_, rfl⟩
                          have w_153 := hw
                          have hP : bP Γ [bMo Γ m u_153, bA Γ (m 7) 150 g, bA Γ (m 8) 350 T2] H := hP
                          have hD : bD AA [bMo Γ m u_153, bA Γ (m 7) 150 g, bA Γ (m 8) 350 T2] := hD
                          refine lv_goto (tgt := 14) zx zb dX12_reads_156 (by decide) ?_
                          exact ih14 u_153 T2 ((rd_s hN c_137 (by omega) w_153.1.1 w_153.1.2.1 w_153.1.2.2 w_153.2).1) (by have h8 := (rd_s hN c_137 (by omega) w_153.1.1 w_153.1.2.1 w_153.1.2.2 w_153.2); have h9 := (rdO_b h8.1).2.2.1; have h7 := h8.2; omega) _ _ hP hD hS _ (lv_sub hl [0] rfl)
                        · have c_137 : ¬ (M2.2.2.2.2.1 = 3) := fun h => c_137 ((nI_eq (a := M2.2.2.2.2.1) (b := 3) (by omega) (by omega)).mpr h)
                          refine lv_iconst (v := nI 0) zx zb dX12_reads_140 (by decide) ?_
                          exact fin _ _ (nI 0) (M2, T2) 141 _ dX12_reads_141 (fun _ => nar0) (rd_f4 hN c_137 (by omega)) hP hD hS
                      · have c_89 : ¬ (nbN wv ≤ k) := fun h => c_89 ((nI_leI (a := nbN wv) (b := k) (by omega) (by omega)).mpr h)
                        refine lv_aload_n zx zb dX12_reads_92 rfl (lv_at hl 0 rfl) ?_
                        refine g_get (v := .int (nI (M2.2.2.2.2.1))) XX hP 0 0 rfl rfl rfl iwX12 11 (by decide) fl_X12_133 rfl dX12_reads_93 ?_
                        refine lv_iconst (v := nI 2) zx zb dX12_reads_96 (by decide) ?_
                        refine lv_icmp_eq (tgt := 102) zx zb dX12_reads_97 (by decide) (fun c_97 => ?_) (fun c_97 => ?_)
                        · have c_97 : M2.2.2.2.2.1 = 2 := (nI_eq (a := M2.2.2.2.2.1) (b := 2) (by omega) (by omega)).mp c_97
                          refine lv_aload_n zx zb dX12_reads_102 rfl (lv_at hl 0 rfl) ?_
                          refine g_get (v := .ref (m 8)) XX hP 0 0 rfl rfl rfl iwX12 13 (by decide) fl_X12_32 rfl dX12_reads_103 ?_
                          refine lv_bipush (v := nI 7) zx zb dX12_reads_106 (by decide) ?_
                          refine lv_aload_n zx zb dX12_reads_108 rfl (lv_at hl 0 rfl) ?_
                          refine g_get (v := .int (nI (M2.2.2.2.2.2.2))) XX hP 0 0 rfl rfl rfl iwX12 14 (by decide) fl_X12_147 rfl dX12_reads_109 ?_
                          refine lv_imul zx zb dX12_reads_112 ?_
                          refine g_top (y := nI (7 * M2.2.2.2.2.2.2)) (pk_mul 7 M2.2.2.2.2.2.2) ?_
                          refine lv_iconst (v := nI 1) zx zb dX12_reads_113 (by decide) ?_
                          refine lv_iadd zx zb dX12_reads_114 ?_
                          refine g_top (y := nI (7 * M2.2.2.2.2.2.2 + 1)) (nI_add (7 * M2.2.2.2.2.2.2) 1) ?_
                          refine lv_iload_n zx zb dX12_reads_115 rfl (lv_at hl 2 rfl) ?_
                          refine lv_iadd zx zb dX12_reads_116 ?_
                          refine g_top (y := nI (7 * M2.2.2.2.2.2.2 + 1 + k)) (nI_add (7 * M2.2.2.2.2.2.2 + 1) k) ?_
                          refine lv_aload_n zx zb dX12_reads_117 rfl (lv_at hl 0 rfl) ?_
                          refine g_get (v := .int (nI (M2.2.2.2.2.2.1))) XX hP 0 0 rfl rfl rfl iwX12 12 (by decide) fl_X12_144 rfl dX12_reads_118 ?_
                          refine g_iastN (x := nI (M2.2.2.2.2.2.1)) (i := 7 * M2.2.2.2.2.2.2 + 1 + k) (blk' := bA Γ (m 8) 350 (upd T2 (7 * M2.2.2.2.2.2.2 + 1 + k) (nI (M2.2.2.2.2.2.1)))) (bs' := [bMo Γ m M2, bA Γ (m 7) 150 g, bA Γ (m 8) 350 (upd T2 (7 * M2.2.2.2.2.2.2 + 1 + k) (nI (M2.2.2.2.2.2.1)))]) XX hP hD hS 2 0 rfl rfl (by have hx9 := kix c_97; omega) (by decide) rfl rfl dX12_reads_121 (fun H locs hP hD hS => ?_)
                          refine lv_aload_n zx zb dX12_reads_122 rfl (lv_at hl 0 rfl) ?_
                          refine call_Vv (As := []) (rest := []) XX cv_X12_150 (c_X12_scans Γ l m M2 g (by rw [kty]; exact hl0) (by rw [kty]; exact kpb)) hP hD hS hA [0, 1] (by decide) rfl (fun _ => rfl) 0 0 rfl rfl rfl rfl hl.1 rfl ⟨⟨by decide, by decide⟩, by decide, by decide⟩ (Nat.le_of_ble_eq_true rfl) dX12_reads_123 (fun u H locs hw hP hD hS => ?_)
                          obtain ⟨u_123, rfl⟩ : ∃ z, z = u := ⟨_, rfl⟩
                          have w_123 := hw
                          have hP : bP Γ [bMo Γ m u_123, bA Γ (m 7) 150 g, bA Γ (m 8) 350 (upd T2 (7 * M2.2.2.2.2.2.2 + 1 + k) (nI (M2.2.2.2.2.2.1)))] H := hP
                          have hD : bD AA [bMo Γ m u_123, bA Γ (m 7) 150 g, bA Γ (m 8) 350 (upd T2 (7 * M2.2.2.2.2.2.2 + 1 + k) (nI (M2.2.2.2.2.2.1)))] := hD
                          refine lv_iinc (v := nI (k + 1)) (lv' := [(2, .int (nI (k + 1))), (0, .ref (m 0)), (1, .int (nI wv))]) zx zb dX12_reads_126 hl (k := 2) rfl (nI_inc _ 1) (by decide) rfl (fun ls hl => ?_)
                          refine lv_goto (tgt := 84) zx zb dX12_reads_129 (by decide) ?_
                          exact ih84 (k + 1) u_123 (upd T2 (7 * M2.2.2.2.2.2.2 + 1 + k) (nI (M2.2.2.2.2.2.1))) (rd_n hN c_97 (by omega) w_123.1.1 w_123.1.2.1 w_123.1.2.2 w_123.2) (by omega) _ _ hP hD hS _ (lv_sub hl [1, 2, 0] rfl)
                        · have c_97 : ¬ (M2.2.2.2.2.1 = 2) := fun h => c_97 ((nI_eq (a := M2.2.2.2.2.1) (b := 2) (by omega) (by omega)).mpr h)
                          refine lv_iconst (v := nI 0) zx zb dX12_reads_100 (by decide) ?_
                          exact fin _ _ (nI 0) (M2, T2) 101 _ dX12_reads_101 (fun _ => nar0) (rd_f3 hN c_97 (by omega)) hP hD hS
                  exact L84 _ 0 u_79 (upd T1 (7 * M1.2.2.2.2.2.2) (nI wv)) (rd_i hO hwv.2 hwv.1 (by omega) w_79.1.1 w_79.1.2.1 w_79.1.2.2 w_79.2) (Nat.lt_succ_self _) _ _ hP hD hS _ (lv_sub hl [2, 1, 0] rfl)
                · exact absurd c_60 (by decide)
  exact L14 _ u_11 T (rd_0 w_11.1.1 w_11.1.2.1 w_11.1.2.2 w_11.2) (Nat.lt_succ_self _) _ _ hP hD hS _ (lv_sub hl [0] rfl)
