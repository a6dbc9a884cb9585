theorem cv_X12_92 : CWV RX12 92 RX12 yX12_adds cX12_adds 8 none 6 := ⟨cd_X12_adds, im_X12_adds, se_X12_X12_adds_X12_adds, in_X12, ml_X12_92, by decide +kernel⟩
set_option maxHeartbeats 4000000 in
set_option maxRecDepth 100000 in
theorem c_X12_adds (Γ : GG) (l : Launch) (m : Nat → Nat) (M : MoV) (b : Nat → Int32) (C : CoV) (tr : Nat → TrV) (Y : YrV) (pc : Nat) (P : Nat → YrV) (k : Int32) (a : Int32) (c : Int32) (f1 : Int32) (u1 : Int32) (p1 : Int32) (hr : Rel b C tr Y pc P) (h6 : C.2.2.2.2.2.2.1 < 6) : Cv Γ l yX12_adds cX12_adds 8 none 1 21 0 0 [.ref (m 0), .int k, .int a, .int c, .int f1, .int u1, .int p1] [bMo Γ m M, bA Γ (m 1) 259 b] (fun (u : Nat → Int32) => u = addB b C.2.2.2.2.2.2.1 k a c f1 u1 p1) (fun (u : Nat → Int32) => [bMo Γ m M, bA Γ (m 1) 259 u]) := by
  refine Cv.of rfl (by decide) (Nat.le_of_ble_eq_true rfl) ?_
  intro pp ee ss mm bb me cd AA QQ XX hnm hA hP hD fin ls hl
  obtain ⟨zx, zb, hml, hown, hts, hK⟩ := id XX
  have hS : va_S AA ss.heap ss.heap [] := va_S.rf
  have hl : lv_has ls 8 [(0, .ref (m 0)), (1, .int k), (2, .int a), (3, .int c), (4, .int f1), (5, .int u1), (6, .int p1)] := hl
  refine lv_aload_n zx zb dX12_adds_0 rfl (lv_at hl 0 rfl) ?_
  refine g_get (v := .ref (m 1)) XX hP 0 0 rfl rfl rfl iwX12 0 (by decide) fl_X12_7 rfl dX12_adds_1 ?_
  refine lv_iconst (v := nI 4) zx zb dX12_adds_4 (by decide) ?_
  refine g_ialdN (i := 4) XX hP 1 0 rfl rfl (by omega) (by decide) dX12_adds_5 ?_
  refine g_top (y := nI (C.2.2.2.2.2.2.1)) (Rel.tc hr) ?_
  refine lv_iconst (v := nI 0) zx zb dX12_adds_6 (by decide) ?_
  refine callR_Si (As := [.int (nI (C.2.2.2.2.2.2.1)), .int (nI 0)]) (rest := []) XX cs_X12_96 (c_X12_of0 Γ l C.2.2.2.2.2.2.1 0 ) hP hD hS hA nil_mem nil_D rfl hl.1 rfl ⟨⟨by decide, by decide⟩, by decide, by decide⟩ (Nat.le_of_ble_eq_true rfl) dX12_adds_7 (fun r_7 H locs hw hP hS => ?_)
  have hw := hw.symm
  subst hw
  refine lv_istore (lv' := [(7, .int (nI (55 + 7 * C.2.2.2.2.2.2.1 + 0))), (0, .ref (m 0)), (1, .int k), (2, .int a), (3, .int c), (4, .int f1), (5, .int u1), (6, .int p1)]) zx zb dX12_adds_10 hl (by decide) rfl (fun ls hl => ?_)
  refine lv_aload_n zx zb dX12_adds_12 rfl (lv_at hl 1 rfl) ?_
  refine g_get (v := .ref (m 1)) XX hP 0 0 rfl rfl rfl iwX12 0 (by decide) fl_X12_7 rfl dX12_adds_13 ?_
  refine lv_iload zx zb dX12_adds_16 (lv_at hl 0 rfl) ?_
  refine lv_iload_n zx zb dX12_adds_18 rfl (lv_at hl 2 rfl) ?_
  refine g_iastN (x := k) (i := 55 + 7 * C.2.2.2.2.2.2.1 + 0) (blk' := bA Γ (m 1) 259 (upd b (55 + 7 * C.2.2.2.2.2.2.1 + 0) k)) (bs' := [bMo Γ m M, bA Γ (m 1) 259 (upd b (55 + 7 * C.2.2.2.2.2.2.1 + 0) k)]) XX hP hD hS 1 0 rfl rfl (by omega) (by decide) rfl rfl dX12_adds_19 (fun H locs hP hD hS => ?_)
  refine lv_aload_n zx zb dX12_adds_20 rfl (lv_at hl 1 rfl) ?_
  refine g_get (v := .ref (m 1)) XX hP 0 0 rfl rfl rfl iwX12 0 (by decide) fl_X12_7 rfl dX12_adds_21 ?_
  refine lv_iload zx zb dX12_adds_24 (lv_at hl 0 rfl) ?_
  refine lv_iconst (v := nI 1) zx zb dX12_adds_26 (by decide) ?_
  refine lv_iadd zx zb dX12_adds_27 ?_
  refine g_top (y := nI (55 + 7 * C.2.2.2.2.2.2.1 + 0 + 1)) (nI_add (55 + 7 * C.2.2.2.2.2.2.1 + 0) 1) ?_
  refine lv_iload_n zx zb dX12_adds_28 rfl (lv_at hl 3 rfl) ?_
  refine g_iastN (x := a) (i := 55 + 7 * C.2.2.2.2.2.2.1 + 0 + 1) (blk' := bA Γ (m 1) 259 (upd (upd b (55 + 7 * C.2.2.2.2.2.2.1 + 0) k) (55 + 7 * C.2.2.2.2.2.2.1 + 0 + 1) a)) (bs' := [bMo Γ m M, bA Γ (m 1) 259 (upd (upd b (55 + 7 * C.2.2.2.2.2.2.1 + 0) k) (55 + 7 * C.2.2.2.2.2.2.1 + 0 + 1) a)]) XX hP hD hS 1 0 rfl rfl (by omega) (by decide) rfl rfl dX12_adds_29 (fun H locs hP hD hS => ?_)
  refine lv_aload_n zx zb dX12_adds_30 rfl (lv_at hl 1 rfl) ?_
  refine g_get (v := .ref (m 1)) XX hP 0 0 rfl rfl rfl iwX12 0 (by decide) fl_X12_7 rfl dX12_adds_31 ?_
  refine lv_iload zx zb dX12_adds_34 (lv_at hl 0 rfl) ?_
  refine lv_iconst (v := nI 2) zx zb dX12_adds_36 (by decide) ?_
  refine lv_iadd zx zb dX12_adds_37 ?_
  refine g_top (y := nI (55 + 7 * C.2.2.2.2.2.2.1 + 0 + 2)) (nI_add (55 + 7 * C.2.2.2.2.2.2.1 + 0) 2) ?_
  refine lv_iload_n zx zb dX12_adds_38 rfl (lv_at hl 4 rfl) ?_
  refine g_iastN (x := c) (i := 55 + 7 * C.2.2.2.2.2.2.1 + 0 + 2) (blk' := bA Γ (m 1) 259 (upd (upd (upd b (55 + 7 * C.2.2.2.2.2.2.1 + 0) k) (55 + 7 * C.2.2.2.2.2.2.1 + 0 + 1) a) (55 + 7 * C.2.2.2.2.2.2.1 + 0 + 2) c)) (bs' := [bMo Γ m M, bA Γ (m 1) 259 (upd (upd (upd b (55 + 7 * C.2.2.2.2.2.2.1 + 0) k) (55 + 7 * C.2.2.2.2.2.2.1 + 0 + 1) a) (55 + 7 * C.2.2.2.2.2.2.1 + 0 + 2) c)]) XX hP hD hS 1 0 rfl rfl (by omega) (by decide) rfl rfl dX12_adds_39 (fun H locs hP hD hS => ?_)
  refine lv_aload_n zx zb dX12_adds_40 rfl (lv_at hl 1 rfl) ?_
  refine g_get (v := .ref (m 1)) XX hP 0 0 rfl rfl rfl iwX12 0 (by decide) fl_X12_7 rfl dX12_adds_41 ?_
  refine lv_iload zx zb dX12_adds_44 (lv_at hl 0 rfl) ?_
  refine lv_iconst (v := nI 3) zx zb dX12_adds_46 (by decide) ?_
  refine lv_iadd zx zb dX12_adds_47 ?_
  refine g_top (y := nI (55 + 7 * C.2.2.2.2.2.2.1 + 0 + 3)) (nI_add (55 + 7 * C.2.2.2.2.2.2.1 + 0) 3) ?_
  refine lv_iload zx zb dX12_adds_48 (lv_at hl 5 rfl) ?_
  refine g_iastN (x := f1) (i := 55 + 7 * C.2.2.2.2.2.2.1 + 0 + 3) (blk' := bA Γ (m 1) 259 (upd (upd (upd (upd b (55 + 7 * C.2.2.2.2.2.2.1 + 0) k) (55 + 7 * C.2.2.2.2.2.2.1 + 0 + 1) a) (55 + 7 * C.2.2.2.2.2.2.1 + 0 + 2) c) (55 + 7 * C.2.2.2.2.2.2.1 + 0 + 3) f1)) (bs' := [bMo Γ m M, bA Γ (m 1) 259 (upd (upd (upd (upd b (55 + 7 * C.2.2.2.2.2.2.1 + 0) k) (55 + 7 * C.2.2.2.2.2.2.1 + 0 + 1) a) (55 + 7 * C.2.2.2.2.2.2.1 + 0 + 2) c) (55 + 7 * C.2.2.2.2.2.2.1 + 0 + 3) f1)]) XX hP hD hS 1 0 rfl rfl (by omega) (by decide) rfl rfl dX12_adds_50 (fun H locs hP hD hS => ?_)
  refine lv_aload_n zx zb dX12_adds_51 rfl (lv_at hl 1 rfl) ?_
  refine g_get (v := .ref (m 1)) XX hP 0 0 rfl rfl rfl iwX12 0 (by decide) fl_X12_7 rfl dX12_adds_52 ?_
  refine lv_iload zx zb dX12_adds_55 (lv_at hl 0 rfl) ?_
  refine lv_iconst (v := nI 4) zx zb dX12_adds_57 (by decide) ?_
  refine lv_iadd zx zb dX12_adds_58 ?_
  refine g_top (y := nI (55 + 7 * C.2.2.2.2.2.2.1 + 0 + 4)) (nI_add (55 + 7 * C.2.2.2.2.2.2.1 + 0) 4) ?_
  refine lv_iload zx zb dX12_adds_59 (lv_at hl 6 rfl) ?_
  refine g_iastN (x := u1) (i := 55 + 7 * C.2.2.2.2.2.2.1 + 0 + 4) (blk' := bA Γ (m 1) 259 (upd (upd (upd (upd (upd b (55 + 7 * C.2.2.2.2.2.2.1 + 0) k) (55 + 7 * C.2.2.2.2.2.2.1 + 0 + 1) a) (55 + 7 * C.2.2.2.2.2.2.1 + 0 + 2) c) (55 + 7 * C.2.2.2.2.2.2.1 + 0 + 3) f1) (55 + 7 * C.2.2.2.2.2.2.1 + 0 + 4) u1)) (bs' := [bMo Γ m M, bA Γ (m 1) 259 (upd (upd (upd (upd (upd b (55 + 7 * C.2.2.2.2.2.2.1 + 0) k) (55 + 7 * C.2.2.2.2.2.2.1 + 0 + 1) a) (55 + 7 * C.2.2.2.2.2.2.1 + 0 + 2) c) (55 + 7 * C.2.2.2.2.2.2.1 + 0 + 3) f1) (55 + 7 * C.2.2.2.2.2.2.1 + 0 + 4) u1)]) XX hP hD hS 1 0 rfl rfl (by omega) (by decide) rfl rfl dX12_adds_61 (fun H locs hP hD hS => ?_)
  refine lv_aload_n zx zb dX12_adds_62 rfl (lv_at hl 1 rfl) ?_
  refine g_get (v := .ref (m 1)) XX hP 0 0 rfl rfl rfl iwX12 0 (by decide) fl_X12_7 rfl dX12_adds_63 ?_
  refine lv_iload zx zb dX12_adds_66 (lv_at hl 0 rfl) ?_
  refine lv_iconst (v := nI 5) zx zb dX12_adds_68 (by decide) ?_
  refine lv_iadd zx zb dX12_adds_69 ?_
  refine g_top (y := nI (55 + 7 * C.2.2.2.2.2.2.1 + 0 + 5)) (nI_add (55 + 7 * C.2.2.2.2.2.2.1 + 0) 5) ?_
  refine lv_iload zx zb dX12_adds_70 (lv_at hl 7 rfl) ?_
  refine g_iastN (x := p1) (i := 55 + 7 * C.2.2.2.2.2.2.1 + 0 + 5) (blk' := bA Γ (m 1) 259 (upd (upd (upd (upd (upd (upd b (55 + 7 * C.2.2.2.2.2.2.1 + 0) k) (55 + 7 * C.2.2.2.2.2.2.1 + 0 + 1) a) (55 + 7 * C.2.2.2.2.2.2.1 + 0 + 2) c) (55 + 7 * C.2.2.2.2.2.2.1 + 0 + 3) f1) (55 + 7 * C.2.2.2.2.2.2.1 + 0 + 4) u1) (55 + 7 * C.2.2.2.2.2.2.1 + 0 + 5) p1)) (bs' := [bMo Γ m M, bA Γ (m 1) 259 (upd (upd (upd (upd (upd (upd b (55 + 7 * C.2.2.2.2.2.2.1 + 0) k) (55 + 7 * C.2.2.2.2.2.2.1 + 0 + 1) a) (55 + 7 * C.2.2.2.2.2.2.1 + 0 + 2) c) (55 + 7 * C.2.2.2.2.2.2.1 + 0 + 3) f1) (55 + 7 * C.2.2.2.2.2.2.1 + 0 + 4) u1) (55 + 7 * C.2.2.2.2.2.2.1 + 0 + 5) p1)]) XX hP hD hS 1 0 rfl rfl (by omega) (by decide) rfl rfl dX12_adds_72 (fun H locs hP hD hS => ?_)
  refine lv_aload_n zx zb dX12_adds_73 rfl (lv_at hl 1 rfl) ?_
  refine g_get (v := .ref (m 1)) XX hP 0 0 rfl rfl rfl iwX12 0 (by decide) fl_X12_7 rfl dX12_adds_74 ?_
  refine lv_iload zx zb dX12_adds_77 (lv_at hl 0 rfl) ?_
  refine lv_bipush (v := nI 6) zx zb dX12_adds_79 (by decide) ?_
  refine lv_iadd zx zb dX12_adds_81 ?_
  refine g_top (y := nI (55 + 7 * C.2.2.2.2.2.2.1 + 0 + 6)) (nI_add (55 + 7 * C.2.2.2.2.2.2.1 + 0) 6) ?_
  refine lv_iconst (v := nI 0) zx zb dX12_adds_82 (by decide) ?_
  refine g_iastN (x := nI 0) (i := 55 + 7 * C.2.2.2.2.2.2.1 + 0 + 6) (blk' := bA Γ (m 1) 259 (upd (upd (upd (upd (upd (upd (upd b (55 + 7 * C.2.2.2.2.2.2.1 + 0) k) (55 + 7 * C.2.2.2.2.2.2.1 + 0 + 1) a) (55 + 7 * C.2.2.2.2.2.2.1 + 0 + 2) c) (55 + 7 * C.2.2.2.2.2.2.1 + 0 + 3) f1) (55 + 7 * C.2.2.2.2.2.2.1 + 0 + 4) u1) (55 + 7 * C.2.2.2.2.2.2.1 + 0 + 5) p1) (55 + 7 * C.2.2.2.2.2.2.1 + 0 + 6) (nI 0))) (bs' := [bMo Γ m M, bA Γ (m 1) 259 (upd (upd (upd (upd (upd (upd (upd b (55 + 7 * C.2.2.2.2.2.2.1 + 0) k) (55 + 7 * C.2.2.2.2.2.2.1 + 0 + 1) a) (55 + 7 * C.2.2.2.2.2.2.1 + 0 + 2) c) (55 + 7 * C.2.2.2.2.2.2.1 + 0 + 3) f1) (55 + 7 * C.2.2.2.2.2.2.1 + 0 + 4) u1) (55 + 7 * C.2.2.2.2.2.2.1 + 0 + 5) p1) (55 + 7 * C.2.2.2.2.2.2.1 + 0 + 6) (nI 0))]) XX hP hD hS 1 0 rfl rfl (by omega) (by decide) rfl rfl dX12_adds_83 (fun H locs hP hD hS => ?_)
  refine lv_aload_n zx zb dX12_adds_84 rfl (lv_at hl 1 rfl) ?_
  refine g_get (v := .ref (m 1)) XX hP 0 0 rfl rfl rfl iwX12 0 (by decide) fl_X12_7 rfl dX12_adds_85 ?_
  refine lv_iconst (v := nI 4) zx zb dX12_adds_88 (by decide) ?_
  refine lv_dup2_11 zx zb dX12_adds_89 rfl rfl ?_
  refine g_ialdN (i := 4) XX hP 1 0 rfl rfl (by omega) (by decide) dX12_adds_90 ?_
  refine g_top (y := nI (C.2.2.2.2.2.2.1)) (by rw [pk_un (by omega), pk_un (by omega), pk_un (by omega), pk_un (by omega), pk_un (by omega), pk_un (by omega), pk_un (by omega)]; exact hr.tc) ?_
  refine lv_iconst (v := nI 1) zx zb dX12_adds_91 (by decide) ?_
  refine lv_iadd zx zb dX12_adds_92 ?_
  refine g_top (y := nI (C.2.2.2.2.2.2.1 + 1)) (nI_add C.2.2.2.2.2.2.1 1) ?_
  refine g_iastN (x := nI (C.2.2.2.2.2.2.1 + 1)) (i := 4) (blk' := bA Γ (m 1) 259 (upd (upd (upd (upd (upd (upd (upd (upd b (55 + 7 * C.2.2.2.2.2.2.1 + 0) k) (55 + 7 * C.2.2.2.2.2.2.1 + 0 + 1) a) (55 + 7 * C.2.2.2.2.2.2.1 + 0 + 2) c) (55 + 7 * C.2.2.2.2.2.2.1 + 0 + 3) f1) (55 + 7 * C.2.2.2.2.2.2.1 + 0 + 4) u1) (55 + 7 * C.2.2.2.2.2.2.1 + 0 + 5) p1) (55 + 7 * C.2.2.2.2.2.2.1 + 0 + 6) (nI 0)) 4 (nI (C.2.2.2.2.2.2.1 + 1)))) (bs' := [bMo Γ m M, bA Γ (m 1) 259 (upd (upd (upd (upd (upd (upd (upd (upd b (55 + 7 * C.2.2.2.2.2.2.1 + 0) k) (55 + 7 * C.2.2.2.2.2.2.1 + 0 + 1) a) (55 + 7 * C.2.2.2.2.2.2.1 + 0 + 2) c) (55 + 7 * C.2.2.2.2.2.2.1 + 0 + 3) f1) (55 + 7 * C.2.2.2.2.2.2.1 + 0 + 4) u1) (55 + 7 * C.2.2.2.2.2.2.1 + 0 + 5) p1) (55 + 7 * C.2.2.2.2.2.2.1 + 0 + 6) (nI 0)) 4 (nI (C.2.2.2.2.2.2.1 + 1)))]) XX hP hD hS 1 0 rfl rfl (by omega) (by decide) rfl rfl dX12_adds_93 (fun H locs hP hD hS => ?_)
  exact fin _ _ (upd (upd (upd (upd (upd (upd (upd (upd b (55 + 7 * C.2.2.2.2.2.2.1 + 0) k) (55 + 7 * C.2.2.2.2.2.2.1 + 0 + 1) a) (55 + 7 * C.2.2.2.2.2.2.1 + 0 + 2) c) (55 + 7 * C.2.2.2.2.2.2.1 + 0 + 3) f1) (55 + 7 * C.2.2.2.2.2.2.1 + 0 + 4) u1) (55 + 7 * C.2.2.2.2.2.2.1 + 0 + 5) p1) (55 + 7 * C.2.2.2.2.2.2.1 + 0 + 6) (nI 0)) 4 (nI (C.2.2.2.2.2.2.1 + 1))) 94 _ dX12_adds_94 (rfl) hP hD hS

set_option maxHeartbeats 4000000 in
set_option maxRecDepth 100000 in
theorem c_X12_treaty (Γ : GG) (l : Launch) (m : Nat → Nat) (M : MoV) (b : Nat → Int32) (C : CoV) (tr : Nat → TrV) (Y : YrV) (pc : Nat) (P : Nat → YrV) (f : Nat → Int32) (k : Int32) (a : Int32) (c : Int32) (f1 : Int32) (u1 : Int32) (p1 : Int32) (hr : Rel b C tr Y pc P) (hI : Inv C tr Y) (hbr : C.2.2.2.2.2.2.1 < 6 → yrBr Y C.2.2.2.2.2.2.1 = false) : Ci Γ l yX12_treaty cX12_treaty 8 (some (.int)) 2 48 0 0 [.ref (m 0), .int k, .int a, .int c, .int f1, .int u1, .int p1] [bMo Γ m M, bA Γ (m 1) 259 b, bA Γ (m 6) 3 f] (fun (r : Int32) (u : (Nat → Int32) × (Nat → Int32)) => r = tTrR C k a c f1 u1 p1 ∧ Rel u.1 (tTr C tr k a c f1 u1 p1).1 (tTr C tr k a c f1 u1 p1).2 Y (trPc C (okTr C k a c f1 u1 p1) pc) P ∧ u.2 = trF M f C (okTr C k a c f1 u1 p1)) (fun (u : (Nat → Int32) × (Nat → Int32)) => [bMo Γ m M, bA Γ (m 1) 259 u.1, bA Γ (m 6) 3 u.2]) := by
  refine Ci.of (Or.inl rfl) (by decide) (Nat.le_of_ble_eq_true rfl) ?_
  intro pp ee ss mm bb me cd AA QQ XX hnm hA hP hD fin ls hl
  obtain ⟨zx, zb, hml, hown, hts, hK⟩ := id XX
  have hS : va_S AA ss.heap ss.heap [] := va_S.rf
  have hl : lv_has ls 8 [(0, .ref (m 0)), (1, .int k), (2, .int a), (3, .int c), (4, .int f1), (5, .int u1), (6, .int p1)] := hl
  have htc := inv_tc hI
  have hdc := inv_dc hI
  have hn := inv_n hI
  refine lv_iload_n zx zb dX12_treaty_0 rfl (lv_at hl 1 rfl) ?_
  refine lv_i2l (v := k.toInt64) zx zb dX12_treaty_1 rfl ?_
  refine lv_lconst (v := (0 : Int32).toInt64) zx zb dX12_treaty_2 (by decide) ?_
  refine lv_ldc2 zx zb hown (hts _ kl_X12_85) dX12_treaty_3 ?_
  refine g_topl (y := (5 : Int32).toInt64) (by decide) ?_
  refine callR_Si (As := [.long k.toInt64, .long ((0 : Int32).toInt64), .long ((5 : Int32).toInt64)]) (rest := []) XX cs_X12_53 (c_X12_in Γ l k 0 5 ) hP hD hS hA nil_mem nil_D rfl hl.1 rfl ⟨⟨by decide, by decide⟩, by decide, by decide⟩ (Nat.le_of_ble_eq_true rfl) dX12_treaty_6 (fun r_6 H locs hw hP hS => ?_)
  have hw := hw.symm
  subst hw
  refine lv_if_eq (tgt := 70) zx zb dX12_treaty_9 (by decide) (fun c_9 => ?_) (fun c_9 => ?_)
  · have c_9 : (wi k 0 5) = false := bI_0.mp c_9
    refine lv_aload_n zx zb dX12_treaty_70 rfl (lv_at hl 0 rfl) ?_
    refine call_Vi (As := []) (rest := []) XX cv_X12_59 (c_X12_bad Γ l m M f ) hP hD hS hA [0, 2] (by decide) rfl (fun _ => rfl) 0 0 rfl rfl rfl rfl hl.1 rfl ⟨⟨by decide, by decide⟩, by decide, by decide⟩ (Nat.le_of_ble_eq_true rfl) dX12_treaty_71 (fun r_71 u H locs hw hP hD hS => ?_)
    obtain ⟨hw1, hw2⟩ := hw
    have hw1 := hw1.symm
    have hw2 := hw2.symm
    subst hw1
    subst hw2
    have hP : bP Γ [bMo Γ m M, bA Γ (m 1) 259 b, bA Γ (m 6) 3 (moRef M f 0)] H := hP
    have hD : bD AA [bMo Γ m M, bA Γ (m 1) 259 b, bA Γ (m 6) 3 (moRef M f 0)] := hD
    exact fin _ _ (-2) (b, (moRef M f 0)) 74 _ dX12_treaty_74 (fun h => by cases h) (by first | exact tre_bad hr (okT_1 c_9) | exact tre_bad hr (okT_2 c_17) | exact tre_bad hr (okT_3 c_28) | exact tre_bad hr (okT_4 c_41) | exact tre_bad hr (okT_5 c_54) | exact tre_bad hr (okT_6 c_67)) hP hD hS
  · have c_9 : (wi k 0 5) = true := bI_ne c_9
    refine lv_aload_n zx zb dX12_treaty_12 rfl (lv_at hl 0 rfl) ?_
    refine lv_iload_n zx zb dX12_treaty_13 rfl (lv_at hl 3 rfl) ?_
    refine call_Vi (As := [.int c]) (rest := []) XX cv_X12_63 (c_X12_isCell Γ l m M b C tr Y pc P c (hr)) hP hD hS hA [0, 1] (by decide) rfl (fun _ => rfl) 0 0 rfl rfl rfl rfl hl.1 rfl ⟨⟨by decide, by decide⟩, by decide, by decide⟩ (Nat.le_of_ble_eq_true rfl) dX12_treaty_14 (fun r_14 u H locs hw hP hD hS => ?_)
    have hw := hw.symm
    subst hw
    have hP : bP Γ [bMo Γ m M, bA Γ (m 1) 259 b, bA Γ (m 6) 3 f] H := hP
    have hD : bD AA [bMo Γ m M, bA Γ (m 1) 259 b, bA Γ (m 6) 3 f] := hD
    refine lv_if_eq (tgt := 70) zx zb dX12_treaty_17 (by decide) (fun c_17 => ?_) (fun c_17 => ?_)
    · have c_17 : (stCell C c) = false := bI_0.mp c_17
      refine lv_aload_n zx zb dX12_treaty_70 rfl (lv_at hl 0 rfl) ?_
      refine call_Vi (As := []) (rest := []) XX cv_X12_59 (c_X12_bad Γ l m M f ) hP hD hS hA [0, 2] (by decide) rfl (fun _ => rfl) 0 0 rfl rfl rfl rfl hl.1 rfl ⟨⟨by decide, by decide⟩, by decide, by decide⟩ (Nat.le_of_ble_eq_true rfl) dX12_treaty_71 (fun r_71 u H locs hw hP hD hS => ?_)
      obtain ⟨hw1, hw2⟩ := hw
      have hw1 := hw1.symm
      have hw2 := hw2.symm
      subst hw1
      subst hw2
      have hP : bP Γ [bMo Γ m M, bA Γ (m 1) 259 b, bA Γ (m 6) 3 (moRef M f 0)] H := hP
      have hD : bD AA [bMo Γ m M, bA Γ (m 1) 259 b, bA Γ (m 6) 3 (moRef M f 0)] := hD
      exact fin _ _ (-2) (b, (moRef M f 0)) 74 _ dX12_treaty_74 (fun h => by cases h) (by first | exact tre_bad hr (okT_1 c_9) | exact tre_bad hr (okT_2 c_17) | exact tre_bad hr (okT_3 c_28) | exact tre_bad hr (okT_4 c_41) | exact tre_bad hr (okT_5 c_54) | exact tre_bad hr (okT_6 c_67)) hP hD hS
    · have c_17 : (stCell C c) = true := bI_ne c_17
      refine lv_iload_n zx zb dX12_treaty_20 rfl (lv_at hl 2 rfl) ?_
      refine lv_i2l (v := a.toInt64) zx zb dX12_treaty_21 rfl ?_
      refine lv_lconst (v := (0 : Int32).toInt64) zx zb dX12_treaty_22 (by decide) ?_
      refine lv_iload_n zx zb dX12_treaty_23 rfl (lv_at hl 3 rfl) ?_
      refine lv_i2l (v := c.toInt64) zx zb dX12_treaty_24 rfl ?_
      refine callR_Si (As := [.long a.toInt64, .long ((0 : Int32).toInt64), .long c.toInt64]) (rest := []) XX cs_X12_53 (c_X12_in Γ l a 0 c ) hP hD hS hA nil_mem nil_D rfl hl.1 rfl ⟨⟨by decide, by decide⟩, by decide, by decide⟩ (Nat.le_of_ble_eq_true rfl) dX12_treaty_25 (fun r_25 H locs hw hP hS => ?_)
      have hw := hw.symm
      subst hw
      refine lv_if_eq (tgt := 70) zx zb dX12_treaty_28 (by decide) (fun c_28 => ?_) (fun c_28 => ?_)
      · have c_28 : (wi a 0 c) = false := bI_0.mp c_28
        refine lv_aload_n zx zb dX12_treaty_70 rfl (lv_at hl 0 rfl) ?_
        refine call_Vi (As := []) (rest := []) XX cv_X12_59 (c_X12_bad Γ l m M f ) hP hD hS hA [0, 2] (by decide) rfl (fun _ => rfl) 0 0 rfl rfl rfl rfl hl.1 rfl ⟨⟨by decide, by decide⟩, by decide, by decide⟩ (Nat.le_of_ble_eq_true rfl) dX12_treaty_71 (fun r_71 u H locs hw hP hD hS => ?_)
        obtain ⟨hw1, hw2⟩ := hw
        have hw1 := hw1.symm
        have hw2 := hw2.symm
        subst hw1
        subst hw2
        have hP : bP Γ [bMo Γ m M, bA Γ (m 1) 259 b, bA Γ (m 6) 3 (moRef M f 0)] H := hP
        have hD : bD AA [bMo Γ m M, bA Γ (m 1) 259 b, bA Γ (m 6) 3 (moRef M f 0)] := hD
        exact fin _ _ (-2) (b, (moRef M f 0)) 74 _ dX12_treaty_74 (fun h => by cases h) (by first | exact tre_bad hr (okT_1 c_9) | exact tre_bad hr (okT_2 c_17) | exact tre_bad hr (okT_3 c_28) | exact tre_bad hr (okT_4 c_41) | exact tre_bad hr (okT_5 c_54) | exact tre_bad hr (okT_6 c_67)) hP hD hS
      · have c_28 : (wi a 0 c) = true := bI_ne c_28
        refine lv_iload zx zb dX12_treaty_31 (lv_at hl 5 rfl) ?_
        refine lv_i2l (v := u1.toInt64) zx zb dX12_treaty_33 rfl ?_
        refine lv_lconst (v := (0 : Int32).toInt64) zx zb dX12_treaty_34 (by decide) ?_
        refine lv_ldc2 zx zb hown (hts _ kl_X12_69) dX12_treaty_35 ?_
        refine g_topl (y := (99 : Int32).toInt64) (by decide) ?_
        refine callR_Si (As := [.long u1.toInt64, .long ((0 : Int32).toInt64), .long ((99 : Int32).toInt64)]) (rest := []) XX cs_X12_53 (c_X12_in Γ l u1 0 99 ) hP hD hS hA nil_mem nil_D rfl hl.1 rfl ⟨⟨by decide, by decide⟩, by decide, by decide⟩ (Nat.le_of_ble_eq_true rfl) dX12_treaty_38 (fun r_38 H locs hw hP hS => ?_)
        have hw := hw.symm
        subst hw
        refine lv_if_eq (tgt := 70) zx zb dX12_treaty_41 (by decide) (fun c_41 => ?_) (fun c_41 => ?_)
        · have c_41 : (wi u1 0 99) = false := bI_0.mp c_41
          refine lv_aload_n zx zb dX12_treaty_70 rfl (lv_at hl 0 rfl) ?_
          refine call_Vi (As := []) (rest := []) XX cv_X12_59 (c_X12_bad Γ l m M f ) hP hD hS hA [0, 2] (by decide) rfl (fun _ => rfl) 0 0 rfl rfl rfl rfl hl.1 rfl ⟨⟨by decide, by decide⟩, by decide, by decide⟩ (Nat.le_of_ble_eq_true rfl) dX12_treaty_71 (fun r_71 u H locs hw hP hD hS => ?_)
          obtain ⟨hw1, hw2⟩ := hw
          have hw1 := hw1.symm
          have hw2 := hw2.symm
          subst hw1
          subst hw2
          have hP : bP Γ [bMo Γ m M, bA Γ (m 1) 259 b, bA Γ (m 6) 3 (moRef M f 0)] H := hP
          have hD : bD AA [bMo Γ m M, bA Γ (m 1) 259 b, bA Γ (m 6) 3 (moRef M f 0)] := hD
          exact fin _ _ (-2) (b, (moRef M f 0)) 74 _ dX12_treaty_74 (fun h => by cases h) (by first | exact tre_bad hr (okT_1 c_9) | exact tre_bad hr (okT_2 c_17) | exact tre_bad hr (okT_3 c_28) | exact tre_bad hr (okT_4 c_41) | exact tre_bad hr (okT_5 c_54) | exact tre_bad hr (okT_6 c_67)) hP hD hS
        · have c_41 : (wi u1 0 99) = true := bI_ne c_41
          refine lv_iload zx zb dX12_treaty_44 (lv_at hl 4 rfl) ?_
          refine lv_i2l (v := f1.toInt64) zx zb dX12_treaty_46 rfl ?_
          refine lv_lconst (v := (0 : Int32).toInt64) zx zb dX12_treaty_47 (by decide) ?_
          refine lv_ldc2 zx zb hown (hts _ kl_X12_69) dX12_treaty_48 ?_
          refine g_topl (y := (99 : Int32).toInt64) (by decide) ?_
          refine callR_Si (As := [.long f1.toInt64, .long ((0 : Int32).toInt64), .long ((99 : Int32).toInt64)]) (rest := []) XX cs_X12_53 (c_X12_in Γ l f1 0 99 ) hP hD hS hA nil_mem nil_D rfl hl.1 rfl ⟨⟨by decide, by decide⟩, by decide, by decide⟩ (Nat.le_of_ble_eq_true rfl) dX12_treaty_51 (fun r_51 H locs hw hP hS => ?_)
          have hw := hw.symm
          subst hw
          refine lv_if_eq (tgt := 70) zx zb dX12_treaty_54 (by decide) (fun c_54 => ?_) (fun c_54 => ?_)
          · have c_54 : (wi f1 0 99) = false := bI_0.mp c_54
            refine lv_aload_n zx zb dX12_treaty_70 rfl (lv_at hl 0 rfl) ?_
            refine call_Vi (As := []) (rest := []) XX cv_X12_59 (c_X12_bad Γ l m M f ) hP hD hS hA [0, 2] (by decide) rfl (fun _ => rfl) 0 0 rfl rfl rfl rfl hl.1 rfl ⟨⟨by decide, by decide⟩, by decide, by decide⟩ (Nat.le_of_ble_eq_true rfl) dX12_treaty_71 (fun r_71 u H locs hw hP hD hS => ?_)
            obtain ⟨hw1, hw2⟩ := hw
            have hw1 := hw1.symm
            have hw2 := hw2.symm
            subst hw1
            subst hw2
            have hP : bP Γ [bMo Γ m M, bA Γ (m 1) 259 b, bA Γ (m 6) 3 (moRef M f 0)] H := hP
            have hD : bD AA [bMo Γ m M, bA Γ (m 1) 259 b, bA Γ (m 6) 3 (moRef M f 0)] := hD
            exact fin _ _ (-2) (b, (moRef M f 0)) 74 _ dX12_treaty_74 (fun h => by cases h) (by first | exact tre_bad hr (okT_1 c_9) | exact tre_bad hr (okT_2 c_17) | exact tre_bad hr (okT_3 c_28) | exact tre_bad hr (okT_4 c_41) | exact tre_bad hr (okT_5 c_54) | exact tre_bad hr (okT_6 c_67)) hP hD hS
          · have c_54 : (wi f1 0 99) = true := bI_ne c_54
            refine lv_iload zx zb dX12_treaty_57 (lv_at hl 6 rfl) ?_
            refine lv_i2l (v := p1.toInt64) zx zb dX12_treaty_59 rfl ?_
            refine lv_lconst (v := (0 : Int32).toInt64) zx zb dX12_treaty_60 (by decide) ?_
            refine lv_ldc2 zx zb hown (hts _ kl_X12_87) dX12_treaty_61 ?_
            refine g_topl (y := (20 : Int32).toInt64) (by decide) ?_
            refine callR_Si (As := [.long p1.toInt64, .long ((0 : Int32).toInt64), .long ((20 : Int32).toInt64)]) (rest := []) XX cs_X12_53 (c_X12_in Γ l p1 0 20 ) hP hD hS hA nil_mem nil_D rfl hl.1 rfl ⟨⟨by decide, by decide⟩, by decide, by decide⟩ (Nat.le_of_ble_eq_true rfl) dX12_treaty_64 (fun r_64 H locs hw hP hS => ?_)
            have hw := hw.symm
            subst hw
            refine lv_if_ne (tgt := 75) zx zb dX12_treaty_67 (by decide) (fun c_67 => ?_) (fun c_67 => ?_)
            · have c_67 : (wi p1 0 20) = true := bI_ne c_67
              obtain ⟨j, hj, rfl⟩ := wi_nat 0 5 c_9 rfl rfl (by decide)
              refine lv_aload_n zx zb dX12_treaty_75 rfl (lv_at hl 0 rfl) ?_
              refine g_get (v := .ref (m 1)) XX hP 0 0 rfl rfl rfl iwX12 0 (by decide) fl_X12_7 rfl dX12_treaty_76 ?_
              refine lv_iconst (v := nI 4) zx zb dX12_treaty_79 (by decide) ?_
              refine g_ialdN (i := 4) XX hP 1 0 rfl rfl (by omega) (by decide) dX12_treaty_80 ?_
              refine g_top (y := nI (C.2.2.2.2.2.2.1)) (Rel.tc hr) ?_
              refine lv_bipush (v := nI 6) zx zb dX12_treaty_81 (by decide) ?_
              refine lv_icmp_ne (tgt := 91) zx zb dX12_treaty_83 (by decide) (fun c_83 => ?_) (fun c_83 => ?_)
              · have c_83 : ¬ (C.2.2.2.2.2.2.1 = 6) := fun h => c_83 ((nI_eq (a := C.2.2.2.2.2.2.1) (b := 6) (by omega) (by omega)).mpr h)
                refine lv_aload_n zx zb dX12_treaty_91 rfl (lv_at hl 0 rfl) ?_
                refine g_get (v := .ref (m 1)) XX hP 0 0 rfl rfl rfl iwX12 0 (by decide) fl_X12_7 rfl dX12_treaty_92 ?_
                refine lv_iconst (v := nI 4) zx zb dX12_treaty_95 (by decide) ?_
                refine g_ialdN (i := 4) XX hP 1 0 rfl rfl (by omega) (by decide) dX12_treaty_96 ?_
                refine g_top (y := nI (C.2.2.2.2.2.2.1)) (Rel.tc hr) ?_
                refine lv_istore (lv' := [(7, .int (nI (C.2.2.2.2.2.2.1))), (0, .ref (m 0)), (1, .int (nI j)), (2, .int a), (3, .int c), (4, .int f1), (5, .int u1), (6, .int p1)]) zx zb dX12_treaty_97 hl (by decide) rfl (fun ls hl => ?_)
                refine lv_aload_n zx zb dX12_treaty_99 rfl (lv_at hl 1 rfl) ?_
                refine lv_iload_n zx zb dX12_treaty_100 rfl (lv_at hl 2 rfl) ?_
                refine lv_iload_n zx zb dX12_treaty_101 rfl (lv_at hl 3 rfl) ?_
                refine lv_iload_n zx zb dX12_treaty_102 rfl (lv_at hl 4 rfl) ?_
                refine lv_iload zx zb dX12_treaty_103 (lv_at hl 5 rfl) ?_
                refine lv_iload zx zb dX12_treaty_105 (lv_at hl 6 rfl) ?_
                refine lv_iload zx zb dX12_treaty_107 (lv_at hl 7 rfl) ?_
                refine call_Vv (As := [.int (nI j), .int a, .int c, .int f1, .int u1, .int p1]) (rest := []) XX cv_X12_92 (c_X12_adds Γ l m M b C tr Y pc P (nI j) a c f1 u1 p1 (hr) (by omega)) hP hD hS hA [0, 1] (by decide) rfl (fun _ => rfl) 0 0 rfl rfl rfl rfl hl.1 rfl ⟨⟨by decide, by decide⟩, by decide, by decide⟩ (Nat.le_of_ble_eq_true rfl) dX12_treaty_109 (fun u H locs hw hP hD hS => ?_)
                have hw := hw.symm
                subst hw
                have hP : bP Γ [bMo Γ m M, bA Γ (m 1) 259 (addB b C.2.2.2.2.2.2.1 (nI j) a c f1 u1 p1), bA Γ (m 6) 3 f] H := hP
                have hD : bD AA [bMo Γ m M, bA Γ (m 1) 259 (addB b C.2.2.2.2.2.2.1 (nI j) a c f1 u1 p1), bA Γ (m 6) 3 f] := hD
                refine lv_aload_n zx zb dX12_treaty_112 rfl (lv_at hl 1 rfl) ?_
                refine g_get (v := .ref (m 1)) XX hP 0 0 rfl rfl rfl iwX12 0 (by decide) fl_X12_7 rfl dX12_treaty_113 ?_
                refine lv_bipush (v := nI 6) zx zb dX12_treaty_116 (by decide) ?_
                refine lv_iconst (v := nI 0) zx zb dX12_treaty_118 (by decide) ?_
                refine g_iastN (x := nI 0) (i := 6) (blk' := bA Γ (m 1) 259 (upd (addB b C.2.2.2.2.2.2.1 (nI j) a c f1 u1 p1) 6 (nI 0))) (bs' := [bMo Γ m M, bA Γ (m 1) 259 (upd (addB b C.2.2.2.2.2.2.1 (nI j) a c f1 u1 p1) 6 (nI 0)), bA Γ (m 6) 3 f]) XX hP hD hS 1 0 rfl rfl (by omega) (by decide) rfl rfl dX12_treaty_119 (fun H locs hP hD hS => ?_)
                refine lv_iload zx zb dX12_treaty_120 (lv_at hl 0 rfl) ?_
                exact fin _ _ (nI (C.2.2.2.2.2.2.1)) (upd (addB b C.2.2.2.2.2.2.1 (nI j) a c f1 u1 p1) 6 (nI 0), f) 122 _ dX12_treaty_122 (fun h => by cases h) (tre_ok (by omega) hr hdc (okT_y c_9 c_17 c_28 c_41 c_54 c_67) (by omega) (hbr (by omega))) hP hD hS
              · have c_83 : C.2.2.2.2.2.2.1 = 6 := (nI_eq (a := C.2.2.2.2.2.2.1) (b := 6) (by omega) (by omega)).mp c_83
                refine lv_aload_n zx zb dX12_treaty_86 rfl (lv_at hl 0 rfl) ?_
                refine call_Vi (As := []) (rest := []) XX cv_X12_89 (c_X12_full Γ l m M f ) hP hD hS hA [0, 2] (by decide) rfl (fun _ => rfl) 0 0 rfl rfl rfl rfl hl.1 rfl ⟨⟨by decide, by decide⟩, by decide, by decide⟩ (Nat.le_of_ble_eq_true rfl) dX12_treaty_87 (fun r_87 u H locs hw hP hD hS => ?_)
                obtain ⟨hw1, hw2⟩ := hw
                have hw1 := hw1.symm
                have hw2 := hw2.symm
                subst hw1
                subst hw2
                have hP : bP Γ [bMo Γ m M, bA Γ (m 1) 259 b, bA Γ (m 6) 3 (moRef M f 2)] H := hP
                have hD : bD AA [bMo Γ m M, bA Γ (m 1) 259 b, bA Γ (m 6) 3 (moRef M f 2)] := hD
                exact fin _ _ (-4) (b, (moRef M f 2)) 90 _ dX12_treaty_90 (fun h => by cases h) (tre_full hr (okT_y c_9 c_17 c_28 c_41 c_54 c_67) (by omega)) hP hD hS
            · have c_67 : (wi p1 0 20) = false := bI_0.mp c_67
              refine lv_aload_n zx zb dX12_treaty_70 rfl (lv_at hl 0 rfl) ?_
              refine call_Vi (As := []) (rest := []) XX cv_X12_59 (c_X12_bad Γ l m M f ) hP hD hS hA [0, 2] (by decide) rfl (fun _ => rfl) 0 0 rfl rfl rfl rfl hl.1 rfl ⟨⟨by decide, by decide⟩, by decide, by decide⟩ (Nat.le_of_ble_eq_true rfl) dX12_treaty_71 (fun r_71 u H locs hw hP hD hS => ?_)
              obtain ⟨hw1, hw2⟩ := hw
              have hw1 := hw1.symm
              have hw2 := hw2.symm
              subst hw1
              subst hw2
              have hP : bP Γ [bMo Γ m M, bA Γ (m 1) 259 b, bA Γ (m 6) 3 (moRef M f 0)] H := hP
              have hD : bD AA [bMo Γ m M, bA Γ (m 1) 259 b, bA Γ (m 6) 3 (moRef M f 0)] := hD
              exact fin _ _ (-2) (b, (moRef M f 0)) 74 _ dX12_treaty_74 (fun h => by cases h) (by first | exact tre_bad hr (okT_1 c_9) | exact tre_bad hr (okT_2 c_17) | exact tre_bad hr (okT_3 c_28) | exact tre_bad hr (okT_4 c_41) | exact tre_bad hr (okT_5 c_54) | exact tre_bad hr (okT_6 c_67)) hP hD hS
