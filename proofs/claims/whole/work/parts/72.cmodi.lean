
set_option maxHeartbeats 4000000 in
set_option maxRecDepth 100000 in
theorem c_X12_adds (Γ : GG) (l : Launch) (m : Nat → Nat) (M : MoV) (b : Nat → Int32) (C : CoV) (tr : Nat → TrV) (Y : YrV) (pc : Nat) (P : Nat → YrV) (k : Int32) (a : Int32) (c : Int32) (f1 : Int32) (u1 : Int32) (p1 : Int32) (hr : Rel b C tr Y pc P) (h6 : C.2.2.2.2.2.2.1 < 6) : Cv Γ l yX12_adds cX12_adds 8 none 1 21 0 0 [.ref (m 0), .int k, .int a, .int c, .int f1, .int u1, .int p1] [bMo Γ m M, bA Γ (m 1) 259 b] (fun (u : Nat → Int32) => u = addB b C.2.2.2.2.2.2.1 k a c f1 u1 p1) (fun (u : Nat → Int32) => [bMo Γ m M, bA Γ (m 1) 259 u]) := by
  refine Cv.of rfl (by decide) (Nat.le_of_ble_eq_true rfl) ?_
  intro pp ee ss mm bb me cd AA QQ XX hnm hA hP hD fin ls hl
  obtain ⟨zx, zb, hml, hown, hts, hK⟩ := id XX
  have hS : va_S AA ss.heap ss.heap [] := va_S.rf
  have hl : lv_has ls 8 [(0, .ref (m 0)), (1, .int k), (2, .int a), (3, .int c), (4, .int f1), (5, .int u1), (6, .int p1)] := hl
  refine lv_aload_n zx zb dX12_adds_0 rfl (lv_at hl 0 rfl) ?_
  refine g_get (v := .ref (m 1)) XX hP 0 0 rfl rfl rfl iwX12 0 (by decide) fl_X12_7 rfl dX12_adds_1 ?_
  refine lv_iconst (v := nI 4) zx zb dX12_adds_4 (by decide) ?_
  refine g_ialdN (i := 4) XX hP 1 0 rfl rfl (by omega) (by decide) dX12_adds_5 ?_
  refine g_top (y := nI (C.2.2.2.2.2.2.1)) (Rel.tc hr) ?_
  refine lv_iconst (v := nI 0) zx zb dX12_adds_6 (by decide) ?_
  refine callR_Si (As := [.int (nI (C.2.2.2.2.2.2.1)), .int (nI 0)]) (rest := []) XX cs_X12_96 (c_X12_of0 Γ l C.2.2.2.2.2.2.1 0 ) hP hD hS hA nil_mem nil_D rfl hl.1 rfl ⟨⟨by decide, by decide⟩, by decide, by decide⟩ (Nat.le_of_ble_eq_true rfl) dX12_adds_7 (fun r_7 H locs hw hP hS => ?_)
  have hw := hw.symm
  subst hw
  refine lv_istore (lv' := [(7, .int (nI (55 + 7 * C.2.2.2.2.2.2.1 + 0))), (0, .ref (m 0)), (1, .int k), (2, .int a), (3, .int c), (4, .int f1), (5, .int u1), (6, .int p1)]) zx zb dX12_adds_10 hl (by decide) rfl (fun ls hl => ?_)
  refine lv_aload_n zx zb dX12_adds_12 rfl (lv_at hl 1 rfl) ?_
  refine g_get (v := .ref (m 1)) XX hP 0 0 rfl rfl rfl iwX12 0 (by decide) fl_X12_7 rfl dX12_adds_13 ?_
  refine lv_iload zx zb dX12_adds_16 (lv_at hl 0 rfl) ?_
  refine lv_iload_n zx zb dX12_adds_18 rfl (lv_at hl 2 rfl) ?_
  refine g_iastN (x := k) (i := 55 + 7 * C.2.2.2.2.2.2.1 + 0) (blk' := bA Γ (m 1) 259 (upd b (55 + 7 * C.2.2.2.2.2.2.1 + 0) k)) (bs' := [bMo Γ m M, bA Γ (m 1) 259 (upd b (55 + 7 * C.2.2.2.2.2.2.1 + 0) k)]) XX hP hD hS 1 0 rfl rfl (by omega) (by decide) rfl rfl dX12_adds_19 (fun H locs hP hD hS => ?_)
  refine lv_aload_n zx zb dX12_adds_20 rfl (lv_at hl 1 rfl) ?_
  refine g_get (v := .ref (m 1)) XX hP 0 0 rfl rfl rfl iwX12 0 (by decide) fl_X12_7 rfl dX12_adds_21 ?_
  refine lv_iload zx zb dX12_adds_24 (lv_at hl 0 rfl) ?_
  refine lv_iconst (v := nI 1) zx zb dX12_adds_26 (by decide) ?_
  refine lv_iadd zx zb dX12_adds_27 ?_
  refine g_top (y := nI (55 + 7 * C.2.2.2.2.2.2.1 + 0 + 1)) (nI_add (55 + 7 * C.2.2.2.2.2.2.1 + 0) 1) ?_
  refine lv_iload_n zx zb dX12_adds_28 rfl (lv_at hl 3 rfl) ?_
  refine g_iastN (x := a) (i := 55 + 7 * C.2.2.2.2.2.2.1 + 0 + 1) (blk' := bA Γ (m 1) 259 (upd (upd b (55 + 7 * C.2.2.2.2.2.2.1 + 0) k) (55 + 7 * C.2.2.2.2.2.2.1 + 0 + 1) a)) (bs' := [bMo Γ m M, bA Γ (m 1) 259 (upd (upd b (55 + 7 * C.2.2.2.2.2.2.1 + 0) k) (55 + 7 * C.2.2.2.2.2.2.1 + 0 + 1) a)]) XX hP hD hS 1 0 rfl rfl (by omega) (by decide) rfl rfl dX12_adds_29 (fun H locs hP hD hS => ?_)
  refine lv_aload_n zx zb dX12_adds_30 rfl (lv_at hl 1 rfl) ?_
  refine g_get (v := .ref (m 1)) XX hP 0 0 rfl rfl rfl iwX12 0 (by decide) fl_X12_7 rfl dX12_adds_31 ?_
  refine lv_iload zx zb dX12_adds_34 (lv_at hl 0 rfl) ?_
  refine lv_iconst (v := nI 2) zx zb dX12_adds_36 (by decide) ?_
  refine lv_iadd zx zb dX12_adds_37 ?_
  refine g_top (y := nI (55 + 7 * C.2.2.2.2.2.2.1 + 0 + 2)) (nI_add (55 + 7 * C.2.2.2.2.2.2.1 + 0) 2) ?_
  refine lv_iload_n zx zb dX12_adds_38 rfl (lv_at hl 4 rfl) ?_
  refine g_iastN (x := c) (i := 55 + 7 * C.2.2.2.2.2.2.1 + 0 + 2) (blk' := bA Γ (m 1) 259 (upd (upd (upd b (55 + 7 * C.2.2.2.2.2.2.1 + 0) k) (55 + 7 * C.2.2.2.2.2.2.1 + 0 + 1) a) (55 + 7 * C.2.2.2.2.2.2.1 + 0 + 2) c)) (bs' := [bMo Γ m M, bA Γ (m 1) 259 (upd (upd (upd b (55 + 7 * C.2.2.2.2.2.2.1 + 0) k) (55 + 7 * C.2.2.2.2.2.2.1 + 0 + 1) a) (55 + 7 * C.2.2.2.2.2.2.1 + 0 + 2) c)]) XX hP hD hS 1 0 rfl rfl (by omega) (by decide) rfl rfl dX12_adds_39 (fun H locs hP hD hS => ?_)
  refine lv_aload_n zx zb dX12_adds_40 rfl (lv_at hl 1 rfl) ?_
  refine g_get (v := .ref (m 1)) XX hP 0 0 rfl rfl rfl iwX12 0 (by decide) fl_X12_7 rfl dX12_adds_41 ?_
  refine lv_iload zx zb dX12_adds_44 (lv_at hl 0 rfl) ?_
  refine lv_iconst (v := nI 3) zx zb dX12_adds_46 (by decide) ?_
  refine lv_iadd zx zb dX12_adds_47 ?_
  refine g_top (y := nI (55 + 7 * C.2.2.2.2.2.2.1 + 0 + 3)) (nI_add (55 + 7 * C.2.2.2.2.2.2.1 + 0) 3) ?_
  refine lv_iload zx zb dX12_adds_48 (lv_at hl 5 rfl) ?_
  refine g_iastN (x := f1) (i := 55 + 7 * C.2.2.2.2.2.2.1 + 0 + 3) (blk' := bA Γ (m 1) 259 (upd (upd (upd (upd b (55 + 7 * C.2.2.2.2.2.2.1 + 0) k) (55 + 7 * C.2.2.2.2.2.2.1 + 0 + 1) a) (55 + 7 * C.2.2.2.2.2.2.1 + 0 + 2) c) (55 + 7 * C.2.2.2.2.2.2.1 + 0 + 3) f1)) (bs' := [bMo Γ m M, bA Γ (m 1) 259 (upd (upd (upd (upd b (55 + 7 * C.2.2.2.2.2.2.1 + 0) k) (55 + 7 * C.2.2.2.2.2.2.1 + 0 + 1) a) (55 + 7 * C.2.2.2.2.2.2.1 + 0 + 2) c) (55 + 7 * C.2.2.2.2.2.2.1 + 0 + 3) f1)]) XX hP hD hS 1 0 rfl rfl (by omega) (by decide) rfl rfl dX12_adds_50 (fun H locs hP hD hS => ?_)
  refine lv_aload_n zx zb dX12_adds_51 rfl (lv_at hl 1 rfl) ?_
  refine g_get (v := .ref (m 1)) XX hP 0 0 rfl rfl rfl iwX12 0 (by decide) fl_X12_7 rfl dX12_adds_52 ?_
  refine lv_iload zx zb dX12_adds_55 (lv_at hl 0 rfl) ?_
  refine lv_iconst (v := nI 4) zx zb dX12_adds_57 (by decide) ?_
  refine lv_iadd zx zb dX12_adds_58 ?_
  refine g_top (y := nI (55 + 7 * C.2.2.2.2.2.2.1 + 0 + 4)) (nI_add (55 + 7 * C.2.2.2.2.2.2.1 + 0) 4) ?_
  refine lv_iload zx zb dX12_adds_59 (lv_at hl 6 rfl) ?_
  refine g_iastN (x := u1) (i := 55 + 7 * C.2.2.2.2.2.2.1 + 0 + 4) (blk' := bA Γ (m 1) 259 (upd (upd (upd (upd (upd b (55 + 7 * C.2.2.2.2.2.2.1 + 0) k) (55 + 7 * C.2.2.2.2.2.2.1 + 0 + 1) a) (55 + 7 * C.2.2.2.2.2.2.1 + 0 + 2) c) (55 + 7 * C.2.2.2.2.2.2.1 + 0 + 3) f1) (55 + 7 * C.2.2.2.2.2.2.1 + 0 + 4) u1)) (bs' := [bMo Γ m M, bA Γ (m 1) 259 (upd (upd (upd (upd (upd b (55 + 7 * C.2.2.2.2.2.2.1 + 0) k) (55 + 7 * C.2.2.2.2.2.2.1 + 0 + 1) a) (55 + 7 * C.2.2.2.2.2.2.1 + 0 + 2) c) (55 + 7 * C.2.2.2.2.2.2.1 + 0 + 3) f1) (55 + 7 * C.2.2.2.2.2.2.1 + 0 + 4) u1)]) XX hP hD hS 1 0 rfl rfl (by omega) (by decide) rfl rfl dX12_adds_61 (fun H locs hP hD hS => ?_)
  refine lv_aload_n zx zb dX12_adds_62 rfl (lv_at hl 1 rfl) ?_
  refine g_get (v := .ref (m 1)) XX hP 0 0 rfl rfl rfl iwX12 0 (by decide) fl_X12_7 rfl dX12_adds_63 ?_
  refine lv_iload zx zb dX12_adds_66 (lv_at hl 0 rfl) ?_
  refine lv_iconst (v := nI 5) zx zb dX12_adds_68 (by decide) ?_
  refine lv_iadd zx zb dX12_adds_69 ?_
  refine g_top (y := nI (55 + 7 * C.2.2.2.2.2.2.1 + 0 + 5)) (nI_add (55 + 7 * C.2.2.2.2.2.2.1 + 0) 5) ?_
  refine lv_iload zx zb dX12_adds_70 (lv_at hl 7 rfl) ?_
  refine g_iastN (x := p1) (i := 55 + 7 * C.2.2.2.2.2.2.1 + 0 + 5) (blk' := bA Γ (m 1) 259 (upd (upd (upd (upd (upd (upd b (55 + 7 * C.2.2.2.2.2.2.1 + 0) k) (55 + 7 * C.2.2.2.2.2.2.1 + 0 + 1) a) (55 + 7 * C.2.2.2.2.2.2.1 + 0 + 2) c) (55 + 7 * C.2.2.2.2.2.2.1 + 0 + 3) f1) (55 + 7 * C.2.2.2.2.2.2.1 + 0 + 4) u1) (55 + 7 * C.2.2.2.2.2.2.1 + 0 + 5) p1)) (bs' := [bMo Γ m M, bA Γ (m 1) 259 (upd (upd (upd (upd (upd (upd b (55 + 7 * C.2.2.2.2.2.2.1 + 0) k) (55 + 7 * C.2.2.2.2.2.2.1 + 0 + 1) a) (55 + 7 * C.2.2.2.2.2.2.1 + 0 + 2) c) (55 + 7 * C.2.2.2.2.2.2.1 + 0 + 3) f1) (55 + 7 * C.2.2.2.2.2.2.1 + 0 + 4) u1) (55 + 7 * C.2.2.2.2.2.2.1 + 0 + 5) p1)]) XX hP hD hS 1 0 rfl rfl (by omega) (by decide) rfl rfl dX12_adds_72 (fun H locs hP hD hS => ?_)
  refine lv_aload_n zx zb dX12_adds_73 rfl (lv_at hl 1 rfl) ?_
  refine g_get (v := .ref (m 1)) XX hP 0 0 rfl rfl rfl iwX12 0 (by decide) fl_X12_7 rfl dX12_adds_74 ?_
  refine lv_iload zx zb dX12_adds_77 (lv_at hl 0 rfl) ?_
  refine lv_bipush (v := nI 6) zx zb dX12_adds_79 (by decide) ?_
  refine lv_iadd zx zb dX12_adds_81 ?_
  refine g_top (y := nI (55 + 7 * C.2.2.2.2.2.2.1 + 0 + 6)) (nI_add (55 + 7 * C.2.2.2.2.2.2.1 + 0) 6) ?_
  refine lv_iconst (v := nI 0) zx zb dX12_adds_82 (by decide) ?_
  refine g_iastN (x := nI 0) (i := 55 + 7 * C.2.2.2.2.2.2.1 + 0 + 6) (blk' := bA Γ (m 1) 259 (upd (upd (upd (upd (upd (upd (upd b (55 + 7 * C.2.2.2.2.2.2.1 + 0) k) (55 + 7 * C.2.2.2.2.2.2.1 + 0 + 1) a) (55 + 7 * C.2.2.2.2.2.2.1 + 0 + 2) c) (55 + 7 * C.2.2.2.2.2.2.1 + 0 + 3) f1) (55 + 7 * C.2.2.2.2.2.2.1 + 0 + 4) u1) (55 + 7 * C.2.2.2.2.2.2.1 + 0 + 5) p1) (55 + 7 * C.2.2.2.2.2.2.1 + 0 + 6) (nI 0))) (bs' := [bMo Γ m M, bA Γ (m 1) 259 (upd (upd (upd (upd (upd (upd (upd b (55 + 7 * C.2.2.2.2.2.2.1 + 0) k) (55 + 7 * C.2.2.2.2.2.2.1 + 0 + 1) a) (55 + 7 * C.2.2.2.2.2.2.1 + 0 + 2) c) (55 + 7 * C.2.2.2.2.2.2.1 + 0 + 3) f1) (55 + 7 * C.2.2.2.2.2.2.1 + 0 + 4) u1) (55 + 7 * C.2.2.2.2.2.2.1 + 0 + 5) p1) (55 + 7 * C.2.2.2.2.2.2.1 + 0 + 6) (nI 0))]) XX hP hD hS 1 0 rfl rfl (by omega) (by decide) rfl rfl dX12_adds_83 (fun H locs hP hD hS => ?_)
  refine lv_aload_n zx zb dX12_adds_84 rfl (lv_at hl 1 rfl) ?_
  refine g_get (v := .ref (m 1)) XX hP 0 0 rfl rfl rfl iwX12 0 (by decide) fl_X12_7 rfl dX12_adds_85 ?_
  refine lv_iconst (v := nI 4) zx zb dX12_adds_88 (by decide) ?_
  refine lv_dup2_11 zx zb dX12_adds_89 rfl rfl ?_
  refine g_ialdN (i := 4) XX hP 1 0 rfl rfl (by omega) (by decide) dX12_adds_90 ?_
  refine g_top (y := nI (C.2.2.2.2.2.2.1)) (by rw [pk_un (by omega), pk_un (by omega), pk_un (by omega), pk_un (by omega), pk_un (by omega), pk_un (by omega), pk_un (by omega)]; exact hr.tc) ?_
  refine lv_iconst (v := nI 1) zx zb dX12_adds_91 (by decide) ?_
  refine lv_iadd zx zb dX12_adds_92 ?_
  refine g_top (y := nI (C.2.2.2.2.2.2.1 + 1)) (nI_add C.2.2.2.2.2.2.1 1) ?_
  refine g_iastN (x := nI (C.2.2.2.2.2.2.1 + 1)) (i := 4) (blk' := bA Γ (m 1) 259 (upd (upd (upd (upd (upd (upd (upd (upd b (55 + 7 * C.2.2.2.2.2.2.1 + 0) k) (55 + 7 * C.2.2.2.2.2.2.1 + 0 + 1) a) (55 + 7 * C.2.2.2.2.2.2.1 + 0 + 2) c) (55 + 7 * C.2.2.2.2.2.2.1 + 0 + 3) f1) (55 + 7 * C.2.2.2.2.2.2.1 + 0 + 4) u1) (55 + 7 * C.2.2.2.2.2.2.1 + 0 + 5) p1) (55 + 7 * C.2.2.2.2.2.2.1 + 0 + 6) (nI 0)) 4 (nI (C.2.2.2.2.2.2.1 + 1)))) (bs' := [bMo Γ m M, bA Γ (m 1) 259 (upd (upd (upd (upd (upd (upd (upd (upd b (55 + 7 * C.2.2.2.2.2.2.1 + 0) k) (55 + 7 * C.2.2.2.2.2.2.1 + 0 + 1) a) (55 + 7 * C.2.2.2.2.2.2.1 + 0 + 2) c) (55 + 7 * C.2.2.2.2.2.2.1 + 0 + 3) f1) (55 + 7 * C.2.2.2.2.2.2.1 + 0 + 4) u1) (55 + 7 * C.2.2.2.2.2.2.1 + 0 + 5) p1) (55 + 7 * C.2.2.2.2.2.2.1 + 0 + 6) (nI 0)) 4 (nI (C.2.2.2.2.2.2.1 + 1)))]) XX hP hD hS 1 0 rfl rfl (by omega) (by decide) rfl rfl dX12_adds_93 (fun H locs hP hD hS => ?_)
  exact fin _ _ (upd (upd (upd (upd (upd (upd (upd (upd b (55 + 7 * C.2.2.2.2.2.2.1 + 0) k) (55 + 7 * C.2.2.2.2.2.2.1 + 0 + 1) a) (55 + 7 * C.2.2.2.2.2.2.1 + 0 + 2) c) (55 + 7 * C.2.2.2.2.2.2.1 + 0 + 3) f1) (55 + 7 * C.2.2.2.2.2.2.1 + 0 + 4) u1) (55 + 7 * C.2.2.2.2.2.2.1 + 0 + 5) p1) (55 + 7 * C.2.2.2.2.2.2.1 + 0 + 6) (nI 0)) 4 (nI (C.2.2.2.2.2.2.1 + 1))) 94 _ dX12_adds_94 (rfl) hP hD hS
