theorem cv_X12_254 : CWV RX12 254 RX12 yX12_areCells cX12_areCells 2 (some (.boolean)) 1 := ⟨cd_X12_areCells, im_X12_areCells, se_X12_X12_areCells_X12_areCells, in_X12, ml_X12_254, by decide +kernel⟩
theorem cv_X12_270 : CWV RX12 270 RX12 yX12_isWetBy cX12_isWetBy 3 (some (.boolean)) 2 := ⟨cd_X12_isWetBy, im_X12_isWetBy, se_X12_X12_isWetBy_X12_isWetBy, in_X12, ml_X12_270, by decide +kernel⟩
theorem cv_X12_297 : CWV RX12 297 RX12 yX12_mixed cX12_mixed 8 (some (.long)) 3 := ⟨cd_X12_mixed, im_X12_mixed, se_X12_X12_mixed_X12_mixed, in_X12, ml_X12_297, by decide +kernel⟩
set_option maxHeartbeats 4000000 in
set_option maxRecDepth 100000 in
theorem c_X12_isWetBy (Γ : GG) (l : Launch) (m : Nat → Nat) (M : MoV) (b : Nat → Int32) (C : CoV) (tr : Nat → TrV) (Y : YrV) (pc : Nat) (P : Nat → YrV) (a : Int32) (w : Int32) (hr : Rel b C tr Y pc P) (hI : Inv C tr Y) : Ci Γ l yX12_isWetBy cX12_isWetBy 3 (some (.boolean)) 2 47 0 0 [.ref (m 0), .int a, .int w] [bMo Γ m M, bA Γ (m 1) 259 b] (fun (r : Int32) (u : Unit) => r = bI (decide ((wetB C Y w >>> (a &&& 31)) &&& 1 = 1))) (fun (u : Unit) => [bMo Γ m M, bA Γ (m 1) 259 b]) := by
  refine Ci.of (Or.inr rfl) (by decide) (Nat.le_of_ble_eq_true rfl) ?_
  intro pp ee ss mm bb me cd AA QQ XX hnm hA hP hD fin ls hl
  obtain ⟨zx, zb, hml, hown, hts, hK⟩ := id XX
  have hS : va_S AA ss.heap ss.heap [] := va_S.rf
  have hl : lv_has ls 3 [(0, .ref (m 0)), (1, .int a), (2, .int w)] := hl
  have htc := inv_tc hI
  have hdc := inv_dc hI
  have hn := inv_n hI
  refine lv_aload_n zx zb dX12_isWetBy_0 rfl (lv_at hl 0 rfl) ?_
  refine lv_iload_n zx zb dX12_isWetBy_1 rfl (lv_at hl 2 rfl) ?_
  refine lv_iconst (v := nI 0) zx zb dX12_isWetBy_2 (by decide) ?_
  refine lv_iconst (v := nI 0) zx zb dX12_isWetBy_3 (by decide) ?_
  refine call_Vi (As := [.int w, .int (nI 0), .int (nI 0)]) (rest := []) XX cv_X12_202 (c_X12_floods Γ l m M b C tr Y pc P w 0 0 0 (hr) (hI) (fun x _ t _ _ => by rw [hasB_0, hasB_0])) hP hD hS hA [0, 1] (by decide) rfl (fun _ => rfl) 0 0 rfl rfl rfl rfl hl.1 rfl ⟨⟨by decide, by decide⟩, by decide, by decide⟩ (Nat.le_of_ble_eq_true rfl) dX12_isWetBy_4 (fun r_4 u H locs hw hP hD hS => ?_)
  have hw := hw.symm
  subst hw
  have hP : bP Γ [bMo Γ m M, bA Γ (m 1) 259 b] H := hP
  have hD : bD AA [bMo Γ m M, bA Γ (m 1) 259 b] := hD
  refine lv_iload_n zx zb dX12_isWetBy_7 rfl (lv_at hl 1 rfl) ?_
  refine lv_ishr zx zb dX12_isWetBy_8 ?_
  refine lv_iconst (v := nI 1) zx zb dX12_isWetBy_9 (by decide) ?_
  refine lv_iand zx zb dX12_isWetBy_10 ?_
  refine g_top (y := ((coWater C Y.2.2.2.1 w 0 0) >>> (a &&& 31)) &&& 1) rfl ?_
  refine lv_iconst (v := nI 1) zx zb dX12_isWetBy_11 (by decide) ?_
  refine lv_icmp_ne (tgt := 19) zx zb dX12_isWetBy_12 (by decide) (fun c_12 => ?_) (fun c_12 => ?_)
  · have c_12 : ¬ ((((coWater C Y.2.2.2.1 w 0 0) >>> (a &&& 31)) &&& 1) = (1 : Int32)) := c_12
    refine lv_iconst (v := nI 0) zx zb dX12_isWetBy_19 (by decide) ?_
    exact fin _ _ (nI 0) () 20 _ dX12_isWetBy_20 (fun _ => nar0) (by first | exact retT (decide_eq_true c_12) | exact retF (decide_eq_false c_12)) hP hD hS
  · have c_12 : (((coWater C Y.2.2.2.1 w 0 0) >>> (a &&& 31)) &&& 1) = (1 : Int32) := c_12
    refine lv_iconst (v := nI 1) zx zb dX12_isWetBy_15 (by decide) ?_
    refine lv_goto (tgt := 20) zx zb dX12_isWetBy_16 (by decide) ?_
    exact fin _ _ (nI 1) () 20 _ dX12_isWetBy_20 (fun _ => nar1) (by first | exact retT (decide_eq_true c_12) | exact retF (decide_eq_false c_12)) hP hD hS

set_option maxHeartbeats 4000000 in
set_option maxRecDepth 100000 in
theorem c_X12_mixed (Γ : GG) (l : Launch) (m : Nat → Nat) (M : MoV) (b : Nat → Int32) (h : Int64) (s : Nat) (n : Nat) (hs : s + n ≤ 259) : Cl Γ l yX12_mixed cX12_mixed 8 (some (.long)) 0 0 0 0 [.ref (m 0), .long h, .int (nI s), .int (nI n)] [bMo Γ m M, bA Γ (m 1) 259 b] (fun (r : Int64) (u : Unit) => r = mixF (fun k => b (s + k)) h n) (fun (u : Unit) => [bMo Γ m M, bA Γ (m 1) 259 b]) := by
  refine Cl.of rfl (by decide) (Nat.le_of_ble_eq_true rfl) ?_
  intro pp ee ss mm bb me cd AA QQ XX hnm hA hP hD fin ls hl
  obtain ⟨zx, zb, hml, hown, hts, hK⟩ := id XX
  have hS : va_S AA ss.heap ss.heap [] := va_S.rf
  have hl : lv_has ls 8 [(0, .ref (m 0)), (1, .long h), (3, .int (nI s)), (4, .int (nI n))] := hl
  refine lv_lload_n zx zb dX12_mixed_0 rfl (lv_at hl 1 rfl) ?_
  refine lv_lstore (lv' := [(5, .long h), (0, .ref (m 0)), (1, .long h), (3, .int (nI s)), (4, .int (nI n))]) zx zb dX12_mixed_1 hl (by decide) rfl (fun ls hl => ?_)
  refine lv_iconst (v := nI 0) zx zb dX12_mixed_3 (by decide) ?_
  refine lv_istore (lv' := [(7, .int (nI 0)), (5, .long h), (0, .ref (m 0)), (1, .long h), (3, .int (nI s)), (4, .int (nI n))]) zx zb dX12_mixed_4 hl (by decide) rfl (fun ls hl => ?_)
  have L6 : ∀ (nn : Nat) (i : Nat) (a : Int64), (i ≤ n) → (a = mixF (fun k => b (s + k)) h i) → n - i < nn → ∀ (H : Heap) (locs : List Loc), bP Γ [bMo Γ m M, bA Γ (m 1) 259 b] H → bD AA [bMo Γ m M, bA Γ (m 1) 259 b] → va_S AA ss.heap H locs → ∀ (ls : Array Slot), lv_has ls 8 [(0, .ref (m 0)), (3, .int (nI s)), (4, .int (nI n)), (5, .long a), (7, .int (nI i))] → W pp l ee { frames := 0, cells := 0, slots := 0, locals := 0 } ss mm [.ref (m 0), .long h, .int (nI s), .int (nI n)].toArray bb me cd H locs 0 0 QQ (F0 mm 6 ls []) := by
    intro nn
    induction nn with
    | zero => intro i a hi ha hm; exact absurd hm (Nat.not_lt_zero _)
    | succ nn ih6 =>
      intro i a hi ha hm6 H locs hP hD hS ls hl
      refine lv_iload zx zb dX12_mixed_6 (lv_at hl 4 rfl) ?_
      refine lv_iload zx zb dX12_mixed_8 (lv_at hl 2 rfl) ?_
      refine lv_icmp_ge (tgt := 38) zx zb dX12_mixed_10 (by decide) (fun c_10 => ?_) (fun c_10 => ?_)
      · have c_10 : n ≤ i := (nI_leI (a := n) (b := i) (by omega) (by omega)).mp c_10
        refine lv_lload zx zb dX12_mixed_38 (lv_at hl 3 rfl) ?_
        exact fin _ _ a () 40 _ dX12_mixed_40 (by have e : i = n := (by omega); subst e; exact ha) hP hD hS
      · have c_10 : ¬ (n ≤ i) := fun h => c_10 ((nI_leI (a := n) (b := i) (by omega) (by omega)).mpr h)
        refine lv_ldc2 zx zb hown (hts _ kl_X12_293) dX12_mixed_13 ?_
        refine g_topl (y := (31 : Int32).toInt64) (by decide) ?_
        refine lv_lload zx zb dX12_mixed_16 (lv_at hl 3 rfl) ?_
        refine lv_lmul zx zb dX12_mixed_18 ?_
        refine lv_aload_n zx zb dX12_mixed_19 rfl (lv_at hl 0 rfl) ?_
        refine g_get (v := .ref (m 1)) XX hP 0 0 rfl rfl rfl iwX12 0 (by decide) fl_X12_7 rfl dX12_mixed_20 ?_
        refine lv_iload_n zx zb dX12_mixed_23 rfl (lv_at hl 1 rfl) ?_
        refine lv_iload zx zb dX12_mixed_24 (lv_at hl 4 rfl) ?_
        refine lv_iadd zx zb dX12_mixed_26 ?_
        refine g_top (y := nI (s + i)) (nI_add s i) ?_
        refine g_ialdN (i := s + i) XX hP 1 0 rfl rfl (by omega) (by decide) dX12_mixed_27 ?_
        refine lv_i2l (v := (b (s + i)).toInt64) zx zb dX12_mixed_28 rfl ?_
        refine lv_ladd zx zb dX12_mixed_29 ?_
        refine lv_lstore (lv' := [(5, .long ((((31 : Int32).toInt64) * a) + ((b (s + i)).toInt64))), (0, .ref (m 0)), (3, .int (nI s)), (4, .int (nI n)), (7, .int (nI i))]) zx zb dX12_mixed_30 hl (by decide) rfl (fun ls hl => ?_)
        refine lv_iinc (v := nI (i + 1)) (lv' := [(7, .int (nI (i + 1))), (5, .long ((((31 : Int32).toInt64) * a) + ((b (s + i)).toInt64))), (0, .ref (m 0)), (3, .int (nI s)), (4, .int (nI n))]) zx zb dX12_mixed_32 hl (k := 4) rfl (nI_inc _ 1) (by decide) rfl (fun ls hl => ?_)
        refine lv_goto (tgt := 6) zx zb dX12_mixed_35 (by decide) ?_
        exact ih6 (i + 1) ((((31 : Int32).toInt64) * a) + ((b (s + i)).toInt64)) (by omega) (by rw [mixF, ← ha]; rfl) (by omega) _ _ hP hD hS _ (lv_sub hl [2, 3, 4, 1, 0] rfl)
  exact L6 _ 0 h (by omega) (rfl) (Nat.lt_succ_self _) _ _ hP hD hS _ (lv_sub hl [2, 4, 5, 1, 0] rfl)

set_option maxHeartbeats 4000000 in
set_option maxRecDepth 100000 in
theorem c_X12_digest (Γ : GG) (l : Launch) (m : Nat → Nat) (M : MoV) (b : Nat → Int32) (C : CoV) (tr : Nat → TrV) (Y : YrV) (pc : Nat) (P : Nat → YrV) (hr : Rel b C tr Y pc P) (hI : Inv C tr Y) : Cl Γ l yX12_digest cX12_digest 4 (some (.long)) 1 27 0 0 [.ref (m 0)] [bMo Γ m M, bA Γ (m 1) 259 b] (fun (r : Int64) (u : Unit) => r = digR C tr Y pc M.2.1) (fun (u : Unit) => [bMo Γ m M, bA Γ (m 1) 259 b]) := by
  refine Cl.of rfl (by decide) (Nat.le_of_ble_eq_true rfl) ?_
  intro pp ee ss mm bb me cd AA QQ XX hnm hA hP hD fin ls hl
  obtain ⟨zx, zb, hml, hown, hts, hK⟩ := id XX
  have hS : va_S AA ss.heap ss.heap [] := va_S.rf
  have hl : lv_has ls 4 [(0, .ref (m 0))] := hl
  have htc := inv_tc hI
  have hdc := inv_dc hI
  have hn := inv_n hI
  refine lv_ldc2 zx zb hown (hts _ kl_X12_295) dX12_digest_0 ?_
  refine g_topl (y := (907 : Int32).toInt64) (by decide) ?_
  refine lv_lstore_n (lv' := [(1, .long ((907 : Int32).toInt64)), (0, .ref (m 0))]) zx zb dX12_digest_3 rfl hl (by decide) rfl (fun ls hl => ?_)
  refine lv_iconst (v := nI 0) zx zb dX12_digest_4 (by decide) ?_
  refine lv_istore_n (lv' := [(3, .int (nI 0)), (1, .long ((907 : Int32).toInt64)), (0, .ref (m 0))]) zx zb dX12_digest_5 rfl hl (by decide) rfl (fun ls hl => ?_)
  have L6 : ∀ (nn : Nat) (i : Nat) (a : Int64), (i ≤ 8) → (a = digA C Y pc M.2.1 i) → 8 - i < nn → ∀ (H : Heap) (locs : List Loc), bP Γ [bMo Γ m M, bA Γ (m 1) 259 b] H → bD AA [bMo Γ m M, bA Γ (m 1) 259 b] → va_S AA ss.heap H locs → ∀ (ls : Array Slot), lv_has ls 4 [(0, .ref (m 0)), (1, .long a), (3, .int (nI i))] → W pp l ee { frames := 1, cells := 0, slots := 0, locals := 27 } ss mm [.ref (m 0)].toArray bb me cd H locs 0 0 QQ (F0 mm 6 ls []) := by
    intro nn
    induction nn with
    | zero => intro i a hi ha hm; exact absurd hm (Nat.not_lt_zero _)
    | succ nn ih6 =>
      intro i a hi ha hm6 H locs hP hD hS ls hl
      refine lv_iload_n zx zb dX12_digest_6 rfl (lv_at hl 2 rfl) ?_
      refine lv_bipush (v := nI 8) zx zb dX12_digest_7 (by decide) ?_
      refine lv_icmp_ge (tgt := 31) zx zb dX12_digest_9 (by decide) (fun c_9 => ?_) (fun c_9 => ?_)
      · have c_9 : 8 ≤ i := (nI_leI (a := 8) (b := i) (by omega) (by omega)).mp c_9
        refine lv_aload_n zx zb dX12_digest_31 rfl (lv_at hl 0 rfl) ?_
        refine lv_lload_n zx zb dX12_digest_32 rfl (lv_at hl 1 rfl) ?_
        refine lv_bipush (v := nI 7) zx zb dX12_digest_33 (by decide) ?_
        refine lv_bipush (v := nI 8) zx zb dX12_digest_35 (by decide) ?_
        refine call_Vl (As := [.long a, .int (nI 7), .int (nI 8)]) (rest := []) XX cv_X12_297 (c_X12_mixed Γ l m M b a 7 8 (by omega)) hP hD hS hA [0, 1] (by decide) rfl (fun _ => rfl) 0 0 rfl rfl rfl rfl hl.1 rfl ⟨⟨by decide, by decide⟩, by decide, by decide⟩ (Nat.le_of_ble_eq_true rfl) dX12_digest_37 (fun r_37 u H locs hw hP hD hS => ?_)
        have hw := hw.symm
        subst hw
        have hP : bP Γ [bMo Γ m M, bA Γ (m 1) 259 b] H := hP
        have hD : bD AA [bMo Γ m M, bA Γ (m 1) 259 b] := hD
        refine lv_lstore_n (lv' := [(1, .long (mixF (fun k => b (7 + k)) a 8)), (0, .ref (m 0)), (3, .int (nI i))]) zx zb dX12_digest_40 rfl hl (by decide) rfl (fun ls hl => ?_)
        refine lv_aload_n zx zb dX12_digest_41 rfl (lv_at hl 1 rfl) ?_
        refine lv_lload_n zx zb dX12_digest_42 rfl (lv_at hl 0 rfl) ?_
        refine lv_bipush (v := nI 15) zx zb dX12_digest_43 (by decide) ?_
        refine lv_iconst (v := nI 5) zx zb dX12_digest_45 (by decide) ?_
        refine lv_aload_n zx zb dX12_digest_46 rfl (lv_at hl 1 rfl) ?_
        refine g_get (v := .ref (m 1)) XX hP 0 0 rfl rfl rfl iwX12 0 (by decide) fl_X12_7 rfl dX12_digest_47 ?_
        refine lv_iconst (v := nI 0) zx zb dX12_digest_50 (by decide) ?_
        refine g_ialdN (i := 0) XX hP 1 0 rfl rfl (by omega) (by decide) dX12_digest_51 ?_
        refine g_top (y := nI (C.1)) (Rel.n hr) ?_
        refine lv_imul zx zb dX12_digest_52 ?_
        refine g_top (y := nI (5 * C.1)) (pk_mul 5 C.1) ?_
        refine call_Vl (As := [.long (mixF (fun k => b (7 + k)) a 8), .int (nI 15), .int (nI (5 * C.1))]) (rest := []) XX cv_X12_297 (c_X12_mixed Γ l m M b (mixF (fun k => b (7 + k)) a 8) 15 (5 * C.1) (by omega)) hP hD hS hA [0, 1] (by decide) rfl (fun _ => rfl) 0 0 rfl rfl rfl rfl hl.1 rfl ⟨⟨by decide, by decide⟩, by decide, by decide⟩ (Nat.le_of_ble_eq_true rfl) dX12_digest_53 (fun r_53 u H locs hw hP hD hS => ?_)
        have hw := hw.symm
        subst hw
        have hP : bP Γ [bMo Γ m M, bA Γ (m 1) 259 b] H := hP
        have hD : bD AA [bMo Γ m M, bA Γ (m 1) 259 b] := hD
        refine lv_lstore_n (lv' := [(1, .long (mixF (fun k => b (15 + k)) (mixF (fun k => b (7 + k)) a 8) (5 * C.1))), (0, .ref (m 0)), (3, .int (nI i))]) zx zb dX12_digest_56 rfl hl (by decide) rfl (fun ls hl => ?_)
        refine lv_aload_n zx zb dX12_digest_57 rfl (lv_at hl 1 rfl) ?_
        refine lv_lload_n zx zb dX12_digest_58 rfl (lv_at hl 0 rfl) ?_
        refine lv_bipush (v := nI 55) zx zb dX12_digest_59 (by decide) ?_
        refine lv_bipush (v := nI 7) zx zb dX12_digest_61 (by decide) ?_
        refine lv_aload_n zx zb dX12_digest_63 rfl (lv_at hl 1 rfl) ?_
        refine g_get (v := .ref (m 1)) XX hP 0 0 rfl rfl rfl iwX12 0 (by decide) fl_X12_7 rfl dX12_digest_64 ?_
        refine lv_iconst (v := nI 4) zx zb dX12_digest_67 (by decide) ?_
        refine g_ialdN (i := 4) XX hP 1 0 rfl rfl (by omega) (by decide) dX12_digest_68 ?_
        refine g_top (y := nI (C.2.2.2.2.2.2.1)) (Rel.tc hr) ?_
        refine lv_imul zx zb dX12_digest_69 ?_
        refine g_top (y := nI (7 * C.2.2.2.2.2.2.1)) (pk_mul 7 C.2.2.2.2.2.2.1) ?_
        refine call_Vl (As := [.long (mixF (fun k => b (15 + k)) (mixF (fun k => b (7 + k)) a 8) (5 * C.1)), .int (nI 55), .int (nI (7 * C.2.2.2.2.2.2.1))]) (rest := []) XX cv_X12_297 (c_X12_mixed Γ l m M b (mixF (fun k => b (15 + k)) (mixF (fun k => b (7 + k)) a 8) (5 * C.1)) 55 (7 * C.2.2.2.2.2.2.1) (by omega)) hP hD hS hA [0, 1] (by decide) rfl (fun _ => rfl) 0 0 rfl rfl rfl rfl hl.1 rfl ⟨⟨by decide, by decide⟩, by decide, by decide⟩ (Nat.le_of_ble_eq_true rfl) dX12_digest_70 (fun r_70 u H locs hw hP hD hS => ?_)
        have hw := hw.symm
        subst hw
        have hP : bP Γ [bMo Γ m M, bA Γ (m 1) 259 b] H := hP
        have hD : bD AA [bMo Γ m M, bA Γ (m 1) 259 b] := hD
        refine lv_lstore_n (lv' := [(1, .long (mixF (fun k => b (55 + k)) (mixF (fun k => b (15 + k)) (mixF (fun k => b (7 + k)) a 8) (5 * C.1)) (7 * C.2.2.2.2.2.2.1))), (0, .ref (m 0)), (3, .int (nI i))]) zx zb dX12_digest_73 rfl hl (by decide) rfl (fun ls hl => ?_)
        refine lv_aload_n zx zb dX12_digest_74 rfl (lv_at hl 1 rfl) ?_
        refine lv_lload_n zx zb dX12_digest_75 rfl (lv_at hl 0 rfl) ?_
        refine lv_bipush (v := nI 97) zx zb dX12_digest_76 (by decide) ?_
        refine lv_iconst (v := nI 3) zx zb dX12_digest_78 (by decide) ?_
        refine lv_aload_n zx zb dX12_digest_79 rfl (lv_at hl 1 rfl) ?_
        refine g_get (v := .ref (m 1)) XX hP 0 0 rfl rfl rfl iwX12 0 (by decide) fl_X12_7 rfl dX12_digest_80 ?_
        refine lv_iconst (v := nI 5) zx zb dX12_digest_83 (by decide) ?_
        refine g_ialdN (i := 5) XX hP 1 0 rfl rfl (by omega) (by decide) dX12_digest_84 ?_
        refine g_top (y := nI (C.2.2.2.2.2.2.2.1)) (Rel.dc hr) ?_
        refine lv_imul zx zb dX12_digest_85 ?_
        refine g_top (y := nI (3 * C.2.2.2.2.2.2.2.1)) (pk_mul 3 C.2.2.2.2.2.2.2.1) ?_
        refine call_Vl (As := [.long (mixF (fun k => b (55 + k)) (mixF (fun k => b (15 + k)) (mixF (fun k => b (7 + k)) a 8) (5 * C.1)) (7 * C.2.2.2.2.2.2.1)), .int (nI 97), .int (nI (3 * C.2.2.2.2.2.2.2.1))]) (rest := []) XX cv_X12_297 (c_X12_mixed Γ l m M b (mixF (fun k => b (55 + k)) (mixF (fun k => b (15 + k)) (mixF (fun k => b (7 + k)) a 8) (5 * C.1)) (7 * C.2.2.2.2.2.2.1)) 97 (3 * C.2.2.2.2.2.2.2.1) (by omega)) hP hD hS hA [0, 1] (by decide) rfl (fun _ => rfl) 0 0 rfl rfl rfl rfl hl.1 rfl ⟨⟨by decide, by decide⟩, by decide, by decide⟩ (Nat.le_of_ble_eq_true rfl) dX12_digest_86 (fun r_86 u H locs hw hP hD hS => ?_)
        have hw := hw.symm
        subst hw
        have hP : bP Γ [bMo Γ m M, bA Γ (m 1) 259 b] H := hP
        have hD : bD AA [bMo Γ m M, bA Γ (m 1) 259 b] := hD
        exact fin _ _ (mixF (fun k => b (97 + k)) (mixF (fun k => b (55 + k)) (mixF (fun k => b (15 + k)) (mixF (fun k => b (7 + k)) a 8) (5 * C.1)) (7 * C.2.2.2.2.2.2.1)) (3 * C.2.2.2.2.2.2.2.1)) () 89 _ dX12_digest_89 (by have e : i = 8 := (by omega); subst e; rw [mix3 hr (Nat.le_refl _), mix7 hr hI (Nat.le_refl _), mix5 hr hn, mix8 hr (Nat.le_refl 8), ha]; rfl) hP hD hS
      · have c_9 : ¬ (8 ≤ i) := fun h => c_9 ((nI_leI (a := 8) (b := i) (by omega) (by omega)).mpr h)
        refine lv_ldc2 zx zb hown (hts _ kl_X12_293) dX12_digest_12 ?_
        refine g_topl (y := (31 : Int32).toInt64) (by decide) ?_
        refine lv_lload_n zx zb dX12_digest_15 rfl (lv_at hl 1 rfl) ?_
        refine lv_lmul zx zb dX12_digest_16 ?_
        refine lv_aload_n zx zb dX12_digest_17 rfl (lv_at hl 0 rfl) ?_
        refine lv_iload_n zx zb dX12_digest_18 rfl (lv_at hl 2 rfl) ?_
        refine call_Vi (As := [.int (nI i)]) (rest := [.long (((31 : Int32).toInt64) * a)]) XX cv_X12_290 (c_X12_countOf Γ l m M b C tr Y pc P i (hr) (by omega)) hP hD hS hA [0, 1] (by decide) rfl (fun _ => rfl) 0 0 rfl rfl rfl rfl hl.1 rfl ⟨⟨by decide, by decide⟩, by decide, by decide⟩ (Nat.le_of_ble_eq_true rfl) dX12_digest_19 (fun r_19 u H locs hw hP hD hS => ?_)
        have hw := hw.symm
        subst hw
        have hP : bP Γ [bMo Γ m M, bA Γ (m 1) 259 b] H := hP
        have hD : bD AA [bMo Γ m M, bA Γ (m 1) 259 b] := hD
        refine lv_i2l (v := (amV C Y pc M.2.1 (nI i)).toInt64) zx zb dX12_digest_22 rfl ?_
        refine lv_ladd zx zb dX12_digest_23 ?_
        refine lv_lstore_n (lv' := [(1, .long ((((31 : Int32).toInt64) * a) + ((amV C Y pc M.2.1 (nI i)).toInt64))), (0, .ref (m 0)), (3, .int (nI i))]) zx zb dX12_digest_24 rfl hl (by decide) rfl (fun ls hl => ?_)
        refine lv_iinc (v := nI (i + 1)) (lv' := [(3, .int (nI (i + 1))), (1, .long ((((31 : Int32).toInt64) * a) + ((amV C Y pc M.2.1 (nI i)).toInt64))), (0, .ref (m 0))]) zx zb dX12_digest_25 hl (k := 2) rfl (nI_inc _ 1) (by decide) rfl (fun ls hl => ?_)
        refine lv_goto (tgt := 6) zx zb dX12_digest_28 (by decide) ?_
        exact ih6 (i + 1) ((((31 : Int32).toInt64) * a) + ((amV C Y pc M.2.1 (nI i)).toInt64)) (by omega) (by rw [digA, ← ha]; rfl) (by omega) _ _ hP hD hS _ (lv_sub hl [2, 1, 0] rfl)
  exact L6 _ 0 ((907 : Int32).toInt64) (by omega) (rfl) (Nat.lt_succ_self _) _ _ hP hD hS _ (lv_sub hl [2, 1, 0] rfl)

set_option maxHeartbeats 4000000 in
set_option maxRecDepth 100000 in
theorem c_X12_shells (Γ : GG) (l : Launch) (m : Nat → Nat) (M : MoV) (b : Nat → Int32) (C : CoV) (tr : Nat → TrV) (Y : YrV) (pc : Nat) (P : Nat → YrV) (f : Nat → Int32) (q : Int32) (w : Int32) (hr : Rel b C tr Y pc P) (hI : Inv C tr Y) : Ci Γ l yX12_shells cX12_shells 8 (some (.int)) 2 46 0 0 [.ref (m 0), .int q, .int w] [bMo Γ m M, bA Γ (m 1) 259 b, bA Γ (m 6) 3 f] (fun (r : Int32) (u : Nat → Int32) => r = shR C q w ∧ u = moV M f (shOk C q w)) (fun (u : Nat → Int32) => [bMo Γ m M, bA Γ (m 1) 259 b, bA Γ (m 6) 3 u]) := by
  refine Ci.of (Or.inl rfl) (by decide) (Nat.le_of_ble_eq_true rfl) ?_
  intro pp ee ss mm bb me cd AA QQ XX hnm hA hP hD fin ls hl
  obtain ⟨zx, zb, hml, hown, hts, hK⟩ := id XX
  have hS : va_S AA ss.heap ss.heap [] := va_S.rf
  have hl : lv_has ls 8 [(0, .ref (m 0)), (1, .int q), (2, .int w)] := hl
  have htc := inv_tc hI
  have hdc := inv_dc hI
  have hn := inv_n hI
  refine lv_aload_n zx zb dX12_shells_0 rfl (lv_at hl 0 rfl) ?_
  refine lv_iload_n zx zb dX12_shells_1 rfl (lv_at hl 1 rfl) ?_
  refine call_Vi (As := [.int q]) (rest := []) XX cv_X12_254 (c_X12_areCells Γ l m M b C tr Y pc P q (hr) (hn)) hP hD hS hA [0, 1] (by decide) rfl (fun _ => rfl) 0 0 rfl rfl rfl rfl hl.1 rfl ⟨⟨by decide, by decide⟩, by decide, by decide⟩ (Nat.le_of_ble_eq_true rfl) dX12_shells_2 (fun r_2 u H locs hw hP hD hS => ?_)
  have hw := hw.symm
  subst hw
  have hP : bP Γ [bMo Γ m M, bA Γ (m 1) 259 b, bA Γ (m 6) 3 f] H := hP
  have hD : bD AA [bMo Γ m M, bA Γ (m 1) 259 b, bA Γ (m 6) 3 f] := hD
  refine lv_if_eq (tgt := 18) zx zb dX12_shells_5 (by decide) (fun c_5 => ?_) (fun c_5 => ?_)
  · have c_5 : (wi q 0 (bit C.1 - 1)) = false := bI_0.mp c_5
    refine lv_aload_n zx zb dX12_shells_18 rfl (lv_at hl 0 rfl) ?_
    refine lv_iconst (v := nI 0) zx zb dX12_shells_19 (by decide) ?_
    refine lv_bipush (v := (-10)) zx zb dX12_shells_20 (by decide) ?_
    refine call_Vi (As := [.int (nI 0), .int (-10)]) (rest := []) XX cv_X12_49 (c_X12_refuses Γ l m M f 0 (-10) (by omega)) hP hD hS hA [0, 2] (by decide) rfl (fun _ => rfl) 0 0 rfl rfl rfl rfl hl.1 rfl ⟨⟨by decide, by decide⟩, by decide, by decide⟩ (Nat.le_of_ble_eq_true rfl) dX12_shells_22 (fun r_22 u H locs hw hP hD hS => ?_)
    obtain ⟨hw1, hw2⟩ := hw
    have hw1 := hw1.symm
    have hw2 := hw2.symm
    subst hw1
    subst hw2
    have hP : bP Γ [bMo Γ m M, bA Γ (m 1) 259 b, bA Γ (m 6) 3 (moRef M f 0)] H := hP
    have hD : bD AA [bMo Γ m M, bA Γ (m 1) 259 b, bA Γ (m 6) 3 (moRef M f 0)] := hD
    exact fin _ _ (-10) (moRef M f 0) 25 _ dX12_shells_25 (fun h => by cases h) ⟨(by simp [shR, shOk, c_5]), (by simp [moV, shOk, c_5])⟩ hP hD hS
  · have c_5 : (wi q 0 (bit C.1 - 1)) = true := bI_ne c_5
    refine lv_iload_n zx zb dX12_shells_8 rfl (lv_at hl 2 rfl) ?_
    refine lv_i2l (v := w.toInt64) zx zb dX12_shells_9 rfl ?_
    refine lv_lconst (v := (0 : Int32).toInt64) zx zb dX12_shells_10 (by decide) ?_
    refine lv_lconst (v := (1 : Int32).toInt64) zx zb dX12_shells_11 (by decide) ?_
    refine callR_Si (As := [.long w.toInt64, .long ((0 : Int32).toInt64), .long ((1 : Int32).toInt64)]) (rest := []) XX cs_X12_53 (c_X12_in Γ l w 0 1 ) hP hD hS hA nil_mem nil_D rfl hl.1 rfl ⟨⟨by decide, by decide⟩, by decide, by decide⟩ (Nat.le_of_ble_eq_true rfl) dX12_shells_12 (fun r_12 H locs hw hP hS => ?_)
    have hw := hw.symm
    subst hw
    refine lv_if_ne (tgt := 26) zx zb dX12_shells_15 (by decide) (fun c_15 => ?_) (fun c_15 => ?_)
    · have c_15 : (wi w 0 1) = true := bI_ne c_15
      obtain ⟨j, hj, rfl⟩ := cells_nat c_5 hn
      refine lv_iconst (v := nI 0) zx zb dX12_shells_26 (by decide) ?_
      refine lv_istore_n (lv' := [(3, .int (nI 0)), (0, .ref (m 0)), (1, .int (nI j)), (2, .int w)]) zx zb dX12_shells_27 rfl hl (by decide) rfl (fun ls hl => ?_)
      refine lv_iconst (v := (-1)) zx zb dX12_shells_28 (by decide) ?_
      refine lv_istore (lv' := [(4, .int (-1)), (3, .int (nI 0)), (0, .ref (m 0)), (1, .int (nI j)), (2, .int w)]) zx zb dX12_shells_29 hl (by decide) rfl (fun ls hl => ?_)
      refine lv_iconst (v := nI 0) zx zb dX12_shells_31 (by decide) ?_
      refine lv_istore (lv' := [(5, .int (nI 0)), (4, .int (-1)), (3, .int (nI 0)), (0, .ref (m 0)), (1, .int (nI j)), (2, .int w)]) zx zb dX12_shells_32 hl (by decide) rfl (fun ls hl => ?_)
      have L34 : ∀ (nn : Nat) (i : Nat) (b0 : Int32) (n : Nat), (i ≤ C.1 + 1) → (b0 = fstN (liF (nI j)) i) → (n = cntN (liF (nI j)) i) → (n ≤ i) → C.1 + 1 - i < nn → ∀ (H : Heap) (locs : List Loc), bP Γ [bMo Γ m M, bA Γ (m 1) 259 b, bA Γ (m 6) 3 f] H → bD AA [bMo Γ m M, bA Γ (m 1) 259 b, bA Γ (m 6) 3 f] → va_S AA ss.heap H locs → ∀ (ls : Array Slot), lv_has ls 8 [(0, .ref (m 0)), (1, .int (nI j)), (2, .int w), (3, .int (nI n)), (4, .int b0), (5, .int (nI i))] → W pp l ee { frames := 2, cells := 0, slots := 0, locals := 46 } ss mm [.ref (m 0), .int (nI j), .int w].toArray bb me cd H locs 0 0 QQ (F0 mm 34 ls []) := by
        intro nn
        induction nn with
        | zero => intro i b0 n hi hb hc hq hm; exact absurd hm (Nat.not_lt_zero _)
        | succ nn ih34 =>
          intro i b0 n hi hb hc hq hm34 H locs hP hD hS ls hl
          refine lv_iload zx zb dX12_shells_34 (lv_at hl 5 rfl) ?_
          refine lv_aload_n zx zb dX12_shells_36 rfl (lv_at hl 0 rfl) ?_
          refine g_get (v := .ref (m 1)) XX hP 0 0 rfl rfl rfl iwX12 0 (by decide) fl_X12_7 rfl dX12_shells_37 ?_
          refine lv_iconst (v := nI 0) zx zb dX12_shells_40 (by decide) ?_
          refine g_ialdN (i := 0) XX hP 1 0 rfl rfl (by omega) (by decide) dX12_shells_41 ?_
          refine g_top (y := nI (C.1)) (Rel.n hr) ?_
          refine lv_icmp_gt (tgt := 127) zx zb dX12_shells_42 (by decide) (fun c_42 => ?_) (fun c_42 => ?_)
          · have c_42 : C.1 < i := (nI_ltI (a := C.1) (b := i) (by omega) (by omega)).mp c_42
            refine lv_iload_n zx zb dX12_shells_127 rfl (lv_at hl 2 rfl) ?_
            refine lv_if_ne (tgt := 135) zx zb dX12_shells_128 (by decide) (fun c_128 => ?_) (fun c_128 => ?_)
            · have c_128 : ¬ (w = (0 : Int32)) := c_128
              refine lv_iload zx zb dX12_shells_135 (lv_at hl 4 rfl) ?_
              exact fin _ _ b0 f 137 _ dX12_shells_137 (fun h => by cases h) ⟨(by have e : i = C.1 + 1 := (by omega); subst e; unfold shR shOk; rw [c_5, c_15]; first | (simp only [Bool.and_self, if_true, if_pos c_128, hc]; done) | (simp only [Bool.and_self, if_true, if_neg c_128, hb]; done)), (by unfold moV shOk; rw [c_5, c_15]; rfl)⟩ hP hD hS
            · have c_128 : w = (0 : Int32) := c_128
              refine lv_iload_n zx zb dX12_shells_131 rfl (lv_at hl 3 rfl) ?_
              refine lv_goto (tgt := 137) zx zb dX12_shells_132 (by decide) ?_
              exact fin _ _ (nI n) f 137 _ dX12_shells_137 (fun h => by cases h) ⟨(by have e : i = C.1 + 1 := (by omega); subst e; unfold shR shOk; rw [c_5, c_15]; first | (simp only [Bool.and_self, if_true, if_pos c_128, hc]; done) | (simp only [Bool.and_self, if_true, if_neg c_128, hb]; done)), (by unfold moV shOk; rw [c_5, c_15]; rfl)⟩ hP hD hS
          · have c_42 : ¬ (C.1 < i) := fun h => c_42 ((nI_ltI (a := C.1) (b := i) (by omega) (by omega)).mpr h)
            refine lv_iload zx zb dX12_shells_45 (lv_at hl 5 rfl) ?_
            refine lv_iconst (v := nI 2) zx zb dX12_shells_47 (by decide) ?_
            refine lv_icmp_lt (tgt := 62) zx zb dX12_shells_48 (by decide) (fun c_48 => ?_) (fun c_48 => ?_)
            · have c_48 : i < 2 := (nI_ltI (a := i) (b := 2) (by omega) (by omega)).mp c_48
              refine lv_iconst (v := nI 1) zx zb dX12_shells_62 (by decide) ?_
              refine lv_goto (tgt := 67) zx zb dX12_shells_63 (by decide) ?_
              refine lv_istore (lv' := [(6, .int (nI 1)), (0, .ref (m 0)), (1, .int (nI j)), (2, .int w), (3, .int (nI n)), (4, .int b0), (5, .int (nI i))]) zx zb dX12_shells_67 hl (by decide) rfl (fun ls hl => ?_)
              refine lv_iload_n zx zb dX12_shells_69 rfl (lv_at hl 2 rfl) ?_
              refine lv_iload zx zb dX12_shells_70 (lv_at hl 6 rfl) ?_
              refine lv_ishr zx zb dX12_shells_72 ?_
              refine g_top (y := (nI j) >>> (nI i)) (sh31r _ (by omega)) ?_
              refine lv_if_ne (tgt := 85) zx zb dX12_shells_73 (by decide) (fun c_73 => ?_) (fun c_73 => ?_)
              · have c_73 : ¬ (((nI j) >>> (nI i)) = (0 : Int32)) := c_73
                refine lv_iconst (v := nI 0) zx zb dX12_shells_85 (by decide) ?_
                refine lv_istore (lv' := [(7, .int (nI 0)), (6, .int (nI 1)), (0, .ref (m 0)), (1, .int (nI j)), (2, .int w), (3, .int (nI n)), (4, .int b0), (5, .int (nI i))]) zx zb dX12_shells_86 hl (by decide) rfl (fun ls hl => ?_)
                refine lv_iload_n zx zb dX12_shells_88 rfl (lv_at hl 5 rfl) ?_
                refine lv_iload zx zb dX12_shells_89 (lv_at hl 0 rfl) ?_
                refine lv_if_eq (tgt := 98) zx zb dX12_shells_91 (by decide) (fun c_91 => ?_) (fun c_91 => ?_)
                · clear c_91
                  refine lv_iconst (v := nI 0) zx zb dX12_shells_98 (by decide) ?_
                  refine lv_iadd zx zb dX12_shells_99 ?_
                  refine g_top (y := nI n) (nI_add n 0) ?_
                  refine lv_istore_n (lv' := [(3, .int (nI n)), (7, .int (nI 0)), (6, .int (nI 1)), (0, .ref (m 0)), (1, .int (nI j)), (2, .int w), (4, .int b0), (5, .int (nI i))]) zx zb dX12_shells_100 rfl hl (by decide) rfl (fun ls hl => ?_)
                  refine lv_iload zx zb dX12_shells_101 (lv_at hl 1 rfl) ?_
                  refine lv_if_eq (tgt := 117) zx zb dX12_shells_103 (by decide) (fun c_103 => ?_) (fun c_103 => ?_)
                  · clear c_103
                    refine lv_iload zx zb dX12_shells_117 (lv_at hl 6 rfl) ?_
                    refine lv_istore (lv' := [(4, .int b0), (3, .int (nI n)), (7, .int (nI 0)), (6, .int (nI 1)), (0, .ref (m 0)), (1, .int (nI j)), (2, .int w), (5, .int (nI i))]) zx zb dX12_shells_119 hl (by decide) rfl (fun ls hl => ?_)
                    refine lv_iinc (v := nI (i + 1)) (lv' := [(5, .int (nI (i + 1))), (4, .int b0), (3, .int (nI n)), (7, .int (nI 0)), (6, .int (nI 1)), (0, .ref (m 0)), (1, .int (nI j)), (2, .int w)]) zx zb dX12_shells_121 hl (k := 7) rfl (nI_inc _ 1) (by decide) rfl (fun ls hl => ?_)
                    refine lv_goto (tgt := 34) zx zb dX12_shells_124 (by decide) ?_
                    exact ih34 (i + 1) b0 n (by omega) (by first | exact fst_no hb (by first | exact li_0 c_73 | exact li_1 c_73 c_48 | exact li_2 (by omega) (by omega) c_73 c_48 c_59 | exact li_3 (by omega) (by omega) c_73 c_48 c_59) | exact fst_m (by omega) hb hc (by first | exact li_0 c_73 | exact li_1 c_73 c_48 | exact li_2 (by omega) (by omega) c_73 c_48 c_59 | exact li_3 (by omega) (by omega) c_73 c_48 c_59) c_109 | exact fst_o (by omega) hb hc (by first | exact li_0 c_73 | exact li_1 c_73 c_48 | exact li_2 (by omega) (by omega) c_73 c_48 c_59 | exact li_3 (by omega) (by omega) c_73 c_48 c_59) c_109) (by first | exact cnt_y hc (by first | exact li_0 c_73 | exact li_1 c_73 c_48 | exact li_2 (by omega) (by omega) c_73 c_48 c_59 | exact li_3 (by omega) (by omega) c_73 c_48 c_59) | exact cnt_n hc (by first | exact li_0 c_73 | exact li_1 c_73 c_48 | exact li_2 (by omega) (by omega) c_73 c_48 c_59 | exact li_3 (by omega) (by omega) c_73 c_48 c_59)) (by omega) (by omega) _ _ hP hD hS _ (lv_sub hl [5, 6, 7, 2, 1, 0] rfl)
                  · exact absurd c_103 (by decide)
                · exact absurd c_91 (by decide)
              · have c_73 : ((nI j) >>> (nI i)) = (0 : Int32) := c_73
                refine lv_iload zx zb dX12_shells_76 (lv_at hl 0 rfl) ?_
                refine lv_if_eq (tgt := 85) zx zb dX12_shells_78 (by decide) (fun c_78 => ?_) (fun c_78 => ?_)
                · exact absurd c_78 (by decide)
                · clear c_78
                  refine lv_iconst (v := nI 1) zx zb dX12_shells_81 (by decide) ?_
                  refine lv_goto (tgt := 86) zx zb dX12_shells_82 (by decide) ?_
                  refine lv_istore (lv' := [(7, .int (nI 1)), (6, .int (nI 1)), (0, .ref (m 0)), (1, .int (nI j)), (2, .int w), (3, .int (nI n)), (4, .int b0), (5, .int (nI i))]) zx zb dX12_shells_86 hl (by decide) rfl (fun ls hl => ?_)
                  refine lv_iload_n zx zb dX12_shells_88 rfl (lv_at hl 5 rfl) ?_
                  refine lv_iload zx zb dX12_shells_89 (lv_at hl 0 rfl) ?_
                  refine lv_if_eq (tgt := 98) zx zb dX12_shells_91 (by decide) (fun c_91 => ?_) (fun c_91 => ?_)
                  · exact absurd c_91 (by decide)
                  · clear c_91
                    refine lv_iconst (v := nI 1) zx zb dX12_shells_94 (by decide) ?_
                    refine lv_goto (tgt := 99) zx zb dX12_shells_95 (by decide) ?_
                    refine lv_iadd zx zb dX12_shells_99 ?_
                    refine g_top (y := nI (n + 1)) (nI_add n 1) ?_
                    refine lv_istore_n (lv' := [(3, .int (nI (n + 1))), (7, .int (nI 1)), (6, .int (nI 1)), (0, .ref (m 0)), (1, .int (nI j)), (2, .int w), (4, .int b0), (5, .int (nI i))]) zx zb dX12_shells_100 rfl hl (by decide) rfl (fun ls hl => ?_)
                    refine lv_iload zx zb dX12_shells_101 (lv_at hl 1 rfl) ?_
                    refine lv_if_eq (tgt := 117) zx zb dX12_shells_103 (by decide) (fun c_103 => ?_) (fun c_103 => ?_)
                    · exact absurd c_103 (by decide)
                    · clear c_103
                      refine lv_iload zx zb dX12_shells_106 (lv_at hl 6 rfl) ?_
                      refine lv_iconst (v := (-1)) zx zb dX12_shells_108 (by decide) ?_
                      refine lv_icmp_ne (tgt := 117) zx zb dX12_shells_109 (by decide) (fun c_109 => ?_) (fun c_109 => ?_)
                      · have c_109 : ¬ (b0 = (-1)) := c_109
                        refine lv_iload zx zb dX12_shells_117 (lv_at hl 6 rfl) ?_
                        refine lv_istore (lv' := [(4, .int b0), (3, .int (nI (n + 1))), (7, .int (nI 1)), (6, .int (nI 1)), (0, .ref (m 0)), (1, .int (nI j)), (2, .int w), (5, .int (nI i))]) zx zb dX12_shells_119 hl (by decide) rfl (fun ls hl => ?_)
                        refine lv_iinc (v := nI (i + 1)) (lv' := [(5, .int (nI (i + 1))), (4, .int b0), (3, .int (nI (n + 1))), (7, .int (nI 1)), (6, .int (nI 1)), (0, .ref (m 0)), (1, .int (nI j)), (2, .int w)]) zx zb dX12_shells_121 hl (k := 7) rfl (nI_inc _ 1) (by decide) rfl (fun ls hl => ?_)
                        refine lv_goto (tgt := 34) zx zb dX12_shells_124 (by decide) ?_
                        exact ih34 (i + 1) b0 (n + 1) (by omega) (by first | exact fst_no hb (by first | exact li_0 c_73 | exact li_1 c_73 c_48 | exact li_2 (by omega) (by omega) c_73 c_48 c_59 | exact li_3 (by omega) (by omega) c_73 c_48 c_59) | exact fst_m (by omega) hb hc (by first | exact li_0 c_73 | exact li_1 c_73 c_48 | exact li_2 (by omega) (by omega) c_73 c_48 c_59 | exact li_3 (by omega) (by omega) c_73 c_48 c_59) c_109 | exact fst_o (by omega) hb hc (by first | exact li_0 c_73 | exact li_1 c_73 c_48 | exact li_2 (by omega) (by omega) c_73 c_48 c_59 | exact li_3 (by omega) (by omega) c_73 c_48 c_59) c_109) (by first | exact cnt_y hc (by first | exact li_0 c_73 | exact li_1 c_73 c_48 | exact li_2 (by omega) (by omega) c_73 c_48 c_59 | exact li_3 (by omega) (by omega) c_73 c_48 c_59) | exact cnt_n hc (by first | exact li_0 c_73 | exact li_1 c_73 c_48 | exact li_2 (by omega) (by omega) c_73 c_48 c_59 | exact li_3 (by omega) (by omega) c_73 c_48 c_59)) (by omega) (by omega) _ _ hP hD hS _ (lv_sub hl [5, 6, 7, 2, 1, 0] rfl)
                      · have c_109 : b0 = (-1) := c_109
                        refine lv_iload zx zb dX12_shells_112 (lv_at hl 7 rfl) ?_
                        refine lv_goto (tgt := 119) zx zb dX12_shells_114 (by decide) ?_
                        refine lv_istore (lv' := [(4, .int (nI i)), (3, .int (nI (n + 1))), (7, .int (nI 1)), (6, .int (nI 1)), (0, .ref (m 0)), (1, .int (nI j)), (2, .int w), (5, .int (nI i))]) zx zb dX12_shells_119 hl (by decide) rfl (fun ls hl => ?_)
                        refine lv_iinc (v := nI (i + 1)) (lv' := [(5, .int (nI (i + 1))), (4, .int (nI i)), (3, .int (nI (n + 1))), (7, .int (nI 1)), (6, .int (nI 1)), (0, .ref (m 0)), (1, .int (nI j)), (2, .int w)]) zx zb dX12_shells_121 hl (k := 7) rfl (nI_inc _ 1) (by decide) rfl (fun ls hl => ?_)
                        refine lv_goto (tgt := 34) zx zb dX12_shells_124 (by decide) ?_
                        exact ih34 (i + 1) (nI i) (n + 1) (by omega) (by first | exact fst_no hb (by first | exact li_0 c_73 | exact li_1 c_73 c_48 | exact li_2 (by omega) (by omega) c_73 c_48 c_59 | exact li_3 (by omega) (by omega) c_73 c_48 c_59) | exact fst_m (by omega) hb hc (by first | exact li_0 c_73 | exact li_1 c_73 c_48 | exact li_2 (by omega) (by omega) c_73 c_48 c_59 | exact li_3 (by omega) (by omega) c_73 c_48 c_59) c_109 | exact fst_o (by omega) hb hc (by first | exact li_0 c_73 | exact li_1 c_73 c_48 | exact li_2 (by omega) (by omega) c_73 c_48 c_59 | exact li_3 (by omega) (by omega) c_73 c_48 c_59) c_109) (by first | exact cnt_y hc (by first | exact li_0 c_73 | exact li_1 c_73 c_48 | exact li_2 (by omega) (by omega) c_73 c_48 c_59 | exact li_3 (by omega) (by omega) c_73 c_48 c_59) | exact cnt_n hc (by first | exact li_0 c_73 | exact li_1 c_73 c_48 | exact li_2 (by omega) (by omega) c_73 c_48 c_59 | exact li_3 (by omega) (by omega) c_73 c_48 c_59)) (by omega) (by omega) _ _ hP hD hS _ (lv_sub hl [5, 6, 7, 2, 1, 0] rfl)
            · have c_48 : ¬ (i < 2) := fun h => c_48 ((nI_ltI (a := i) (b := 2) (by omega) (by omega)).mpr h)
              refine lv_iload_n zx zb dX12_shells_51 rfl (lv_at hl 1 rfl) ?_
              refine lv_iload zx zb dX12_shells_52 (lv_at hl 5 rfl) ?_
              refine lv_iconst (v := nI 2) zx zb dX12_shells_54 (by decide) ?_
              refine lv_isub zx zb dX12_shells_55 ?_
              refine g_top (y := (nI i) - 2) rfl ?_
              refine lv_ishr zx zb dX12_shells_56 ?_
              refine lv_iconst (v := nI 3) zx zb dX12_shells_57 (by decide) ?_
              refine lv_iand zx zb dX12_shells_58 ?_
              refine g_top (y := ((nI j) >>> (((nI i) - 2) &&& 31)) &&& 3) rfl ?_
              refine lv_if_eq (tgt := 66) zx zb dX12_shells_59 (by decide) (fun c_59 => ?_) (fun c_59 => ?_)
              · have c_59 : (((nI j) >>> (((nI i) - 2) &&& 31)) &&& 3) = (0 : Int32) := c_59
                refine lv_iconst (v := nI 0) zx zb dX12_shells_66 (by decide) ?_
                refine lv_istore (lv' := [(6, .int (nI 0)), (0, .ref (m 0)), (1, .int (nI j)), (2, .int w), (3, .int (nI n)), (4, .int b0), (5, .int (nI i))]) zx zb dX12_shells_67 hl (by decide) rfl (fun ls hl => ?_)
                refine lv_iload_n zx zb dX12_shells_69 rfl (lv_at hl 2 rfl) ?_
                refine lv_iload zx zb dX12_shells_70 (lv_at hl 6 rfl) ?_
                refine lv_ishr zx zb dX12_shells_72 ?_
                refine g_top (y := (nI j) >>> (nI i)) (sh31r _ (by omega)) ?_
                refine lv_if_ne (tgt := 85) zx zb dX12_shells_73 (by decide) (fun c_73 => ?_) (fun c_73 => ?_)
                · have c_73 : ¬ (((nI j) >>> (nI i)) = (0 : Int32)) := c_73
                  refine lv_iconst (v := nI 0) zx zb dX12_shells_85 (by decide) ?_
                  refine lv_istore (lv' := [(7, .int (nI 0)), (6, .int (nI 0)), (0, .ref (m 0)), (1, .int (nI j)), (2, .int w), (3, .int (nI n)), (4, .int b0), (5, .int (nI i))]) zx zb dX12_shells_86 hl (by decide) rfl (fun ls hl => ?_)
                  refine lv_iload_n zx zb dX12_shells_88 rfl (lv_at hl 5 rfl) ?_
                  refine lv_iload zx zb dX12_shells_89 (lv_at hl 0 rfl) ?_
                  refine lv_if_eq (tgt := 98) zx zb dX12_shells_91 (by decide) (fun c_91 => ?_) (fun c_91 => ?_)
                  · clear c_91
                    refine lv_iconst (v := nI 0) zx zb dX12_shells_98 (by decide) ?_
                    refine lv_iadd zx zb dX12_shells_99 ?_
                    refine g_top (y := nI n) (nI_add n 0) ?_
                    refine lv_istore_n (lv' := [(3, .int (nI n)), (7, .int (nI 0)), (6, .int (nI 0)), (0, .ref (m 0)), (1, .int (nI j)), (2, .int w), (4, .int b0), (5, .int (nI i))]) zx zb dX12_shells_100 rfl hl (by decide) rfl (fun ls hl => ?_)
                    refine lv_iload zx zb dX12_shells_101 (lv_at hl 1 rfl) ?_
                    refine lv_if_eq (tgt := 117) zx zb dX12_shells_103 (by decide) (fun c_103 => ?_) (fun c_103 => ?_)
                    · clear c_103
                      refine lv_iload zx zb dX12_shells_117 (lv_at hl 6 rfl) ?_
                      refine lv_istore (lv' := [(4, .int b0), (3, .int (nI n)), (7, .int (nI 0)), (6, .int (nI 0)), (0, .ref (m 0)), (1, .int (nI j)), (2, .int w), (5, .int (nI i))]) zx zb dX12_shells_119 hl (by decide) rfl (fun ls hl => ?_)
                      refine lv_iinc (v := nI (i + 1)) (lv' := [(5, .int (nI (i + 1))), (4, .int b0), (3, .int (nI n)), (7, .int (nI 0)), (6, .int (nI 0)), (0, .ref (m 0)), (1, .int (nI j)), (2, .int w)]) zx zb dX12_shells_121 hl (k := 7) rfl (nI_inc _ 1) (by decide) rfl (fun ls hl => ?_)
                      refine lv_goto (tgt := 34) zx zb dX12_shells_124 (by decide) ?_
                      exact ih34 (i + 1) b0 n (by omega) (by first | exact fst_no hb (by first | exact li_0 c_73 | exact li_1 c_73 c_48 | exact li_2 (by omega) (by omega) c_73 c_48 c_59 | exact li_3 (by omega) (by omega) c_73 c_48 c_59) | exact fst_m (by omega) hb hc (by first | exact li_0 c_73 | exact li_1 c_73 c_48 | exact li_2 (by omega) (by omega) c_73 c_48 c_59 | exact li_3 (by omega) (by omega) c_73 c_48 c_59) c_109 | exact fst_o (by omega) hb hc (by first | exact li_0 c_73 | exact li_1 c_73 c_48 | exact li_2 (by omega) (by omega) c_73 c_48 c_59 | exact li_3 (by omega) (by omega) c_73 c_48 c_59) c_109) (by first | exact cnt_y hc (by first | exact li_0 c_73 | exact li_1 c_73 c_48 | exact li_2 (by omega) (by omega) c_73 c_48 c_59 | exact li_3 (by omega) (by omega) c_73 c_48 c_59) | exact cnt_n hc (by first | exact li_0 c_73 | exact li_1 c_73 c_48 | exact li_2 (by omega) (by omega) c_73 c_48 c_59 | exact li_3 (by omega) (by omega) c_73 c_48 c_59)) (by omega) (by omega) _ _ hP hD hS _ (lv_sub hl [5, 6, 7, 2, 1, 0] rfl)
                    · exact absurd c_103 (by decide)
                  · exact absurd c_91 (by decide)
                · have c_73 : ((nI j) >>> (nI i)) = (0 : Int32) := c_73
                  refine lv_iload zx zb dX12_shells_76 (lv_at hl 0 rfl) ?_
                  refine lv_if_eq (tgt := 85) zx zb dX12_shells_78 (by decide) (fun c_78 => ?_) (fun c_78 => ?_)
                  · clear c_78
                    refine lv_iconst (v := nI 0) zx zb dX12_shells_85 (by decide) ?_
                    refine lv_istore (lv' := [(7, .int (nI 0)), (6, .int (nI 0)), (0, .ref (m 0)), (1, .int (nI j)), (2, .int w), (3, .int (nI n)), (4, .int b0), (5, .int (nI i))]) zx zb dX12_shells_86 hl (by decide) rfl (fun ls hl => ?_)
                    refine lv_iload_n zx zb dX12_shells_88 rfl (lv_at hl 5 rfl) ?_
                    refine lv_iload zx zb dX12_shells_89 (lv_at hl 0 rfl) ?_
                    refine lv_if_eq (tgt := 98) zx zb dX12_shells_91 (by decide) (fun c_91 => ?_) (fun c_91 => ?_)
                    · clear c_91
                      refine lv_iconst (v := nI 0) zx zb dX12_shells_98 (by decide) ?_
                      refine lv_iadd zx zb dX12_shells_99 ?_
                      refine g_top (y := nI n) (nI_add n 0) ?_
                      refine lv_istore_n (lv' := [(3, .int (nI n)), (7, .int (nI 0)), (6, .int (nI 0)), (0, .ref (m 0)), (1, .int (nI j)), (2, .int w), (4, .int b0), (5, .int (nI i))]) zx zb dX12_shells_100 rfl hl (by decide) rfl (fun ls hl => ?_)
                      refine lv_iload zx zb dX12_shells_101 (lv_at hl 1 rfl) ?_
                      refine lv_if_eq (tgt := 117) zx zb dX12_shells_103 (by decide) (fun c_103 => ?_) (fun c_103 => ?_)
                      · clear c_103
                        refine lv_iload zx zb dX12_shells_117 (lv_at hl 6 rfl) ?_
                        refine lv_istore (lv' := [(4, .int b0), (3, .int (nI n)), (7, .int (nI 0)), (6, .int (nI 0)), (0, .ref (m 0)), (1, .int (nI j)), (2, .int w), (5, .int (nI i))]) zx zb dX12_shells_119 hl (by decide) rfl (fun ls hl => ?_)
                        refine lv_iinc (v := nI (i + 1)) (lv' := [(5, .int (nI (i + 1))), (4, .int b0), (3, .int (nI n)), (7, .int (nI 0)), (6, .int (nI 0)), (0, .ref (m 0)), (1, .int (nI j)), (2, .int w)]) zx zb dX12_shells_121 hl (k := 7) rfl (nI_inc _ 1) (by decide) rfl (fun ls hl => ?_)
                        refine lv_goto (tgt := 34) zx zb dX12_shells_124 (by decide) ?_
                        exact ih34 (i + 1) b0 n (by omega) (by first | exact fst_no hb (by first | exact li_0 c_73 | exact li_1 c_73 c_48 | exact li_2 (by omega) (by omega) c_73 c_48 c_59 | exact li_3 (by omega) (by omega) c_73 c_48 c_59) | exact fst_m (by omega) hb hc (by first | exact li_0 c_73 | exact li_1 c_73 c_48 | exact li_2 (by omega) (by omega) c_73 c_48 c_59 | exact li_3 (by omega) (by omega) c_73 c_48 c_59) c_109 | exact fst_o (by omega) hb hc (by first | exact li_0 c_73 | exact li_1 c_73 c_48 | exact li_2 (by omega) (by omega) c_73 c_48 c_59 | exact li_3 (by omega) (by omega) c_73 c_48 c_59) c_109) (by first | exact cnt_y hc (by first | exact li_0 c_73 | exact li_1 c_73 c_48 | exact li_2 (by omega) (by omega) c_73 c_48 c_59 | exact li_3 (by omega) (by omega) c_73 c_48 c_59) | exact cnt_n hc (by first | exact li_0 c_73 | exact li_1 c_73 c_48 | exact li_2 (by omega) (by omega) c_73 c_48 c_59 | exact li_3 (by omega) (by omega) c_73 c_48 c_59)) (by omega) (by omega) _ _ hP hD hS _ (lv_sub hl [5, 6, 7, 2, 1, 0] rfl)
                      · exact absurd c_103 (by decide)
                    · exact absurd c_91 (by decide)
                  · exact absurd c_78 (by decide)
              · have c_59 : ¬ ((((nI j) >>> (((nI i) - 2) &&& 31)) &&& 3) = (0 : Int32)) := c_59
                refine lv_iconst (v := nI 1) zx zb dX12_shells_62 (by decide) ?_
                refine lv_goto (tgt := 67) zx zb dX12_shells_63 (by decide) ?_
                refine lv_istore (lv' := [(6, .int (nI 1)), (0, .ref (m 0)), (1, .int (nI j)), (2, .int w), (3, .int (nI n)), (4, .int b0), (5, .int (nI i))]) zx zb dX12_shells_67 hl (by decide) rfl (fun ls hl => ?_)
                refine lv_iload_n zx zb dX12_shells_69 rfl (lv_at hl 2 rfl) ?_
                refine lv_iload zx zb dX12_shells_70 (lv_at hl 6 rfl) ?_
                refine lv_ishr zx zb dX12_shells_72 ?_
                refine g_top (y := (nI j) >>> (nI i)) (sh31r _ (by omega)) ?_
                refine lv_if_ne (tgt := 85) zx zb dX12_shells_73 (by decide) (fun c_73 => ?_) (fun c_73 => ?_)
                · have c_73 : ¬ (((nI j) >>> (nI i)) = (0 : Int32)) := c_73
                  refine lv_iconst (v := nI 0) zx zb dX12_shells_85 (by decide) ?_
                  refine lv_istore (lv' := [(7, .int (nI 0)), (6, .int (nI 1)), (0, .ref (m 0)), (1, .int (nI j)), (2, .int w), (3, .int (nI n)), (4, .int b0), (5, .int (nI i))]) zx zb dX12_shells_86 hl (by decide) rfl (fun ls hl => ?_)
                  refine lv_iload_n zx zb dX12_shells_88 rfl (lv_at hl 5 rfl) ?_
                  refine lv_iload zx zb dX12_shells_89 (lv_at hl 0 rfl) ?_
                  refine lv_if_eq (tgt := 98) zx zb dX12_shells_91 (by decide) (fun c_91 => ?_) (fun c_91 => ?_)
                  · clear c_91
                    refine lv_iconst (v := nI 0) zx zb dX12_shells_98 (by decide) ?_
                    refine lv_iadd zx zb dX12_shells_99 ?_
                    refine g_top (y := nI n) (nI_add n 0) ?_
                    refine lv_istore_n (lv' := [(3, .int (nI n)), (7, .int (nI 0)), (6, .int (nI 1)), (0, .ref (m 0)), (1, .int (nI j)), (2, .int w), (4, .int b0), (5, .int (nI i))]) zx zb dX12_shells_100 rfl hl (by decide) rfl (fun ls hl => ?_)
                    refine lv_iload zx zb dX12_shells_101 (lv_at hl 1 rfl) ?_
                    refine lv_if_eq (tgt := 117) zx zb dX12_shells_103 (by decide) (fun c_103 => ?_) (fun c_103 => ?_)
                    · clear c_103
                      refine lv_iload zx zb dX12_shells_117 (lv_at hl 6 rfl) ?_
                      refine lv_istore (lv' := [(4, .int b0), (3, .int (nI n)), (7, .int (nI 0)), (6, .int (nI 1)), (0, .ref (m 0)), (1, .int (nI j)), (2, .int w), (5, .int (nI i))]) zx zb dX12_shells_119 hl (by decide) rfl (fun ls hl => ?_)
                      refine lv_iinc (v := nI (i + 1)) (lv' := [(5, .int (nI (i + 1))), (4, .int b0), (3, .int (nI n)), (7, .int (nI 0)), (6, .int (nI 1)), (0, .ref (m 0)), (1, .int (nI j)), (2, .int w)]) zx zb dX12_shells_121 hl (k := 7) rfl (nI_inc _ 1) (by decide) rfl (fun ls hl => ?_)
                      refine lv_goto (tgt := 34) zx zb dX12_shells_124 (by decide) ?_
                      exact ih34 (i + 1) b0 n (by omega) (by first | exact fst_no hb (by first | exact li_0 c_73 | exact li_1 c_73 c_48 | exact li_2 (by omega) (by omega) c_73 c_48 c_59 | exact li_3 (by omega) (by omega) c_73 c_48 c_59) | exact fst_m (by omega) hb hc (by first | exact li_0 c_73 | exact li_1 c_73 c_48 | exact li_2 (by omega) (by omega) c_73 c_48 c_59 | exact li_3 (by omega) (by omega) c_73 c_48 c_59) c_109 | exact fst_o (by omega) hb hc (by first | exact li_0 c_73 | exact li_1 c_73 c_48 | exact li_2 (by omega) (by omega) c_73 c_48 c_59 | exact li_3 (by omega) (by omega) c_73 c_48 c_59) c_109) (by first | exact cnt_y hc (by first | exact li_0 c_73 | exact li_1 c_73 c_48 | exact li_2 (by omega) (by omega) c_73 c_48 c_59 | exact li_3 (by omega) (by omega) c_73 c_48 c_59) | exact cnt_n hc (by first | exact li_0 c_73 | exact li_1 c_73 c_48 | exact li_2 (by omega) (by omega) c_73 c_48 c_59 | exact li_3 (by omega) (by omega) c_73 c_48 c_59)) (by omega) (by omega) _ _ hP hD hS _ (lv_sub hl [5, 6, 7, 2, 1, 0] rfl)
                    · exact absurd c_103 (by decide)
                  · exact absurd c_91 (by decide)
                · have c_73 : ((nI j) >>> (nI i)) = (0 : Int32) := c_73
                  refine lv_iload zx zb dX12_shells_76 (lv_at hl 0 rfl) ?_
                  refine lv_if_eq (tgt := 85) zx zb dX12_shells_78 (by decide) (fun c_78 => ?_) (fun c_78 => ?_)
                  · exact absurd c_78 (by decide)
                  · clear c_78
                    refine lv_iconst (v := nI 1) zx zb dX12_shells_81 (by decide) ?_
                    refine lv_goto (tgt := 86) zx zb dX12_shells_82 (by decide) ?_
                    refine lv_istore (lv' := [(7, .int (nI 1)), (6, .int (nI 1)), (0, .ref (m 0)), (1, .int (nI j)), (2, .int w), (3, .int (nI n)), (4, .int b0), (5, .int (nI i))]) zx zb dX12_shells_86 hl (by decide) rfl (fun ls hl => ?_)
                    refine lv_iload_n zx zb dX12_shells_88 rfl (lv_at hl 5 rfl) ?_
                    refine lv_iload zx zb dX12_shells_89 (lv_at hl 0 rfl) ?_
                    refine lv_if_eq (tgt := 98) zx zb dX12_shells_91 (by decide) (fun c_91 => ?_) (fun c_91 => ?_)
                    · exact absurd c_91 (by decide)
                    · clear c_91
                      refine lv_iconst (v := nI 1) zx zb dX12_shells_94 (by decide) ?_
                      refine lv_goto (tgt := 99) zx zb dX12_shells_95 (by decide) ?_
                      refine lv_iadd zx zb dX12_shells_99 ?_
                      refine g_top (y := nI (n + 1)) (nI_add n 1) ?_
                      refine lv_istore_n (lv' := [(3, .int (nI (n + 1))), (7, .int (nI 1)), (6, .int (nI 1)), (0, .ref (m 0)), (1, .int (nI j)), (2, .int w), (4, .int b0), (5, .int (nI i))]) zx zb dX12_shells_100 rfl hl (by decide) rfl (fun ls hl => ?_)
                      refine lv_iload zx zb dX12_shells_101 (lv_at hl 1 rfl) ?_
                      refine lv_if_eq (tgt := 117) zx zb dX12_shells_103 (by decide) (fun c_103 => ?_) (fun c_103 => ?_)
                      · exact absurd c_103 (by decide)
                      · clear c_103
                        refine lv_iload zx zb dX12_shells_106 (lv_at hl 6 rfl) ?_
                        refine lv_iconst (v := (-1)) zx zb dX12_shells_108 (by decide) ?_
                        refine lv_icmp_ne (tgt := 117) zx zb dX12_shells_109 (by decide) (fun c_109 => ?_) (fun c_109 => ?_)
                        · have c_109 : ¬ (b0 = (-1)) := c_109
                          refine lv_iload zx zb dX12_shells_117 (lv_at hl 6 rfl) ?_
                          refine lv_istore (lv' := [(4, .int b0), (3, .int (nI (n + 1))), (7, .int (nI 1)), (6, .int (nI 1)), (0, .ref (m 0)), (1, .int (nI j)), (2, .int w), (5, .int (nI i))]) zx zb dX12_shells_119 hl (by decide) rfl (fun ls hl => ?_)
                          refine lv_iinc (v := nI (i + 1)) (lv' := [(5, .int (nI (i + 1))), (4, .int b0), (3, .int (nI (n + 1))), (7, .int (nI 1)), (6, .int (nI 1)), (0, .ref (m 0)), (1, .int (nI j)), (2, .int w)]) zx zb dX12_shells_121 hl (k := 7) rfl (nI_inc _ 1) (by decide) rfl (fun ls hl => ?_)
                          refine lv_goto (tgt := 34) zx zb dX12_shells_124 (by decide) ?_
                          exact ih34 (i + 1) b0 (n + 1) (by omega) (by first | exact fst_no hb (by first | exact li_0 c_73 | exact li_1 c_73 c_48 | exact li_2 (by omega) (by omega) c_73 c_48 c_59 | exact li_3 (by omega) (by omega) c_73 c_48 c_59) | exact fst_m (by omega) hb hc (by first | exact li_0 c_73 | exact li_1 c_73 c_48 | exact li_2 (by omega) (by omega) c_73 c_48 c_59 | exact li_3 (by omega) (by omega) c_73 c_48 c_59) c_109 | exact fst_o (by omega) hb hc (by first | exact li_0 c_73 | exact li_1 c_73 c_48 | exact li_2 (by omega) (by omega) c_73 c_48 c_59 | exact li_3 (by omega) (by omega) c_73 c_48 c_59) c_109) (by first | exact cnt_y hc (by first | exact li_0 c_73 | exact li_1 c_73 c_48 | exact li_2 (by omega) (by omega) c_73 c_48 c_59 | exact li_3 (by omega) (by omega) c_73 c_48 c_59) | exact cnt_n hc (by first | exact li_0 c_73 | exact li_1 c_73 c_48 | exact li_2 (by omega) (by omega) c_73 c_48 c_59 | exact li_3 (by omega) (by omega) c_73 c_48 c_59)) (by omega) (by omega) _ _ hP hD hS _ (lv_sub hl [5, 6, 7, 2, 1, 0] rfl)
                        · have c_109 : b0 = (-1) := c_109
                          refine lv_iload zx zb dX12_shells_112 (lv_at hl 7 rfl) ?_
                          refine lv_goto (tgt := 119) zx zb dX12_shells_114 (by decide) ?_
                          refine lv_istore (lv' := [(4, .int (nI i)), (3, .int (nI (n + 1))), (7, .int (nI 1)), (6, .int (nI 1)), (0, .ref (m 0)), (1, .int (nI j)), (2, .int w), (5, .int (nI i))]) zx zb dX12_shells_119 hl (by decide) rfl (fun ls hl => ?_)
                          refine lv_iinc (v := nI (i + 1)) (lv' := [(5, .int (nI (i + 1))), (4, .int (nI i)), (3, .int (nI (n + 1))), (7, .int (nI 1)), (6, .int (nI 1)), (0, .ref (m 0)), (1, .int (nI j)), (2, .int w)]) zx zb dX12_shells_121 hl (k := 7) rfl (nI_inc _ 1) (by decide) rfl (fun ls hl => ?_)
                          refine lv_goto (tgt := 34) zx zb dX12_shells_124 (by decide) ?_
                          exact ih34 (i + 1) (nI i) (n + 1) (by omega) (by first | exact fst_no hb (by first | exact li_0 c_73 | exact li_1 c_73 c_48 | exact li_2 (by omega) (by omega) c_73 c_48 c_59 | exact li_3 (by omega) (by omega) c_73 c_48 c_59) | exact fst_m (by omega) hb hc (by first | exact li_0 c_73 | exact li_1 c_73 c_48 | exact li_2 (by omega) (by omega) c_73 c_48 c_59 | exact li_3 (by omega) (by omega) c_73 c_48 c_59) c_109 | exact fst_o (by omega) hb hc (by first | exact li_0 c_73 | exact li_1 c_73 c_48 | exact li_2 (by omega) (by omega) c_73 c_48 c_59 | exact li_3 (by omega) (by omega) c_73 c_48 c_59) c_109) (by first | exact cnt_y hc (by first | exact li_0 c_73 | exact li_1 c_73 c_48 | exact li_2 (by omega) (by omega) c_73 c_48 c_59 | exact li_3 (by omega) (by omega) c_73 c_48 c_59) | exact cnt_n hc (by first | exact li_0 c_73 | exact li_1 c_73 c_48 | exact li_2 (by omega) (by omega) c_73 c_48 c_59 | exact li_3 (by omega) (by omega) c_73 c_48 c_59)) (by omega) (by omega) _ _ hP hD hS _ (lv_sub hl [5, 6, 7, 2, 1, 0] rfl)
      exact L34 _ 0 (-1) 0 (by omega) (rfl) (rfl) (by omega) (Nat.lt_succ_self _) _ _ hP hD hS _ (lv_sub hl [3, 4, 5, 2, 1, 0] rfl)
    · have c_15 : (wi w 0 1) = false := bI_0.mp c_15
      refine lv_aload_n zx zb dX12_shells_18 rfl (lv_at hl 0 rfl) ?_
      refine lv_iconst (v := nI 0) zx zb dX12_shells_19 (by decide) ?_
      refine lv_bipush (v := (-10)) zx zb dX12_shells_20 (by decide) ?_
      refine call_Vi (As := [.int (nI 0), .int (-10)]) (rest := []) XX cv_X12_49 (c_X12_refuses Γ l m M f 0 (-10) (by omega)) hP hD hS hA [0, 2] (by decide) rfl (fun _ => rfl) 0 0 rfl rfl rfl rfl hl.1 rfl ⟨⟨by decide, by decide⟩, by decide, by decide⟩ (Nat.le_of_ble_eq_true rfl) dX12_shells_22 (fun r_22 u H locs hw hP hD hS => ?_)
      obtain ⟨hw1, hw2⟩ := hw
      have hw1 := hw1.symm
      have hw2 := hw2.symm
      subst hw1
      subst hw2
      have hP : bP Γ [bMo Γ m M, bA Γ (m 1) 259 b, bA Γ (m 6) 3 (moRef M f 0)] H := hP
      have hD : bD AA [bMo Γ m M, bA Γ (m 1) 259 b, bA Γ (m 6) 3 (moRef M f 0)] := hD
      exact fin _ _ (-10) (moRef M f 0) 25 _ dX12_shells_25 (fun h => by cases h) ⟨(by simp [shR, shOk, c_5, c_15]), (by simp [moV, shOk, c_5, c_15])⟩ hP hD hS

set_option maxHeartbeats 4000000 in
set_option maxRecDepth 100000 in
theorem c_X12_wantsBy (Γ : GG) (l : Launch) (m : Nat → Nat) (M : MoV) (b : Nat → Int32) (C : CoV) (tr : Nat → TrV) (Y : YrV) (pc : Nat) (P : Nat → YrV) (k : Int32) (hr : Rel b C tr Y pc P) (hI : Inv C tr Y) (hDD : InvD C) : Ci Γ l yX12_wantsBy cX12_wantsBy 7 (some (.int)) 3 69 0 0 [.ref (m 0), .int k] [bMo Γ m M, bA Γ (m 1) 259 b] (fun (r : Int32) (u : Unit) => r = fitW C Y k 16) (fun (u : Unit) => [bMo Γ m M, bA Γ (m 1) 259 b]) := by
  refine Ci.of (Or.inl rfl) (by decide) (Nat.le_of_ble_eq_true rfl) ?_
  intro pp ee ss mm bb me cd AA QQ XX hnm hA hP hD fin ls hl
  obtain ⟨zx, zb, hml, hown, hts, hK⟩ := id XX
  have hS : va_S AA ss.heap ss.heap [] := va_S.rf
  have hl : lv_has ls 7 [(0, .ref (m 0)), (1, .int k)] := hl
  have htc := inv_tc hI
  have hdc := inv_dc hI
  have hn := inv_n hI
  refine lv_iconst (v := nI 0) zx zb dX12_wantsBy_0 (by decide) ?_
  refine lv_istore_n (lv' := [(2, .int (nI 0)), (0, .ref (m 0)), (1, .int k)]) zx zb dX12_wantsBy_1 rfl hl (by decide) rfl (fun ls hl => ?_)
  refine lv_iconst (v := nI 0) zx zb dX12_wantsBy_2 (by decide) ?_
  refine lv_istore_n (lv' := [(3, .int (nI 0)), (2, .int (nI 0)), (0, .ref (m 0)), (1, .int k)]) zx zb dX12_wantsBy_3 rfl hl (by decide) rfl (fun ls hl => ?_)
  have L4 : ∀ (nn : Nat) (i : Nat) (s : Int32), (i ≤ 16) → (s = fitW C Y k i) → 16 - i < nn → ∀ (H : Heap) (locs : List Loc), bP Γ [bMo Γ m M, bA Γ (m 1) 259 b] H → bD AA [bMo Γ m M, bA Γ (m 1) 259 b] → va_S AA ss.heap H locs → ∀ (ls : Array Slot), lv_has ls 7 [(0, .ref (m 0)), (1, .int k), (2, .int s), (3, .int (nI i))] → W pp l ee { frames := 3, cells := 0, slots := 0, locals := 69 } ss mm [.ref (m 0), .int k].toArray bb me cd H locs 0 0 QQ (F0 mm 4 ls []) := by
    intro nn
    induction nn with
    | zero => intro i s hi hs hm; exact absurd hm (Nat.not_lt_zero _)
    | succ nn ih4 =>
      intro i s hi hs hm4 H locs hP hD hS ls hl
      refine lv_iload_n zx zb dX12_wantsBy_4 rfl (lv_at hl 3 rfl) ?_
      refine lv_bipush (v := nI 16) zx zb dX12_wantsBy_5 (by decide) ?_
      refine lv_icmp_ge (tgt := 121) zx zb dX12_wantsBy_7 (by decide) (fun c_7 => ?_) (fun c_7 => ?_)
      · have c_7 : 16 ≤ i := (nI_leI (a := 16) (b := i) (by omega) (by omega)).mp c_7
        refine lv_iload_n zx zb dX12_wantsBy_121 rfl (lv_at hl 2 rfl) ?_
        exact fin _ _ s () 122 _ dX12_wantsBy_122 (fun h => by cases h) (by have e : i = 16 := (by omega); subst e; exact hs) hP hD hS
      · have c_7 : ¬ (16 ≤ i) := fun h => c_7 ((nI_leI (a := 16) (b := i) (by omega) (by omega)).mpr h)
        refine lv_iconst (v := nI 1) zx zb dX12_wantsBy_10 (by decide) ?_
        refine lv_istore (lv' := [(4, .int (nI 1)), (0, .ref (m 0)), (1, .int k), (2, .int s), (3, .int (nI i))]) zx zb dX12_wantsBy_11 hl (by decide) rfl (fun ls hl => ?_)
        refine lv_iconst (v := nI 0) zx zb dX12_wantsBy_13 (by decide) ?_
        refine lv_istore (lv' := [(5, .int (nI 0)), (4, .int (nI 1)), (0, .ref (m 0)), (1, .int k), (2, .int s), (3, .int (nI i))]) zx zb dX12_wantsBy_14 hl (by decide) rfl (fun ls hl => ?_)
        have L16 : ∀ (nn : Nat) (t : Nat) (a : Bool), (t ≤ C.2.2.2.2.2.2.2.1) → (a = allN (coFit1 C k (wetB C Y (nI i))) t) → C.2.2.2.2.2.2.2.1 - t < nn → ∀ (H : Heap) (locs : List Loc), bP Γ [bMo Γ m M, bA Γ (m 1) 259 b] H → bD AA [bMo Γ m M, bA Γ (m 1) 259 b] → va_S AA ss.heap H locs → ∀ (ls : Array Slot), lv_has ls 7 [(0, .ref (m 0)), (1, .int k), (2, .int s), (3, .int (nI i)), (4, .int (bI a)), (5, .int (nI t))] → W pp l ee { frames := 3, cells := 0, slots := 0, locals := 69 } ss mm [.ref (m 0), .int k].toArray bb me cd H locs 0 0 QQ (F0 mm 16 ls []) := by
          intro nn
          induction nn with
          | zero => intro t a ht ha hm; exact absurd hm (Nat.not_lt_zero _)
          | succ nn ih16 =>
            intro t a ht ha hm16 H locs hP hD hS ls hl
            refine lv_iload zx zb dX12_wantsBy_16 (lv_at hl 5 rfl) ?_
            refine lv_aload_n zx zb dX12_wantsBy_18 rfl (lv_at hl 0 rfl) ?_
            refine g_get (v := .ref (m 1)) XX hP 0 0 rfl rfl rfl iwX12 0 (by decide) fl_X12_7 rfl dX12_wantsBy_19 ?_
            refine lv_iconst (v := nI 5) zx zb dX12_wantsBy_22 (by decide) ?_
            refine g_ialdN (i := 5) XX hP 1 0 rfl rfl (by omega) (by decide) dX12_wantsBy_23 ?_
            refine g_top (y := nI (C.2.2.2.2.2.2.2.1)) (Rel.dc hr) ?_
            refine lv_icmp_ge (tgt := 100) zx zb dX12_wantsBy_24 (by decide) (fun c_24 => ?_) (fun c_24 => ?_)
            · have c_24 : C.2.2.2.2.2.2.2.1 ≤ t := (nI_leI (a := C.2.2.2.2.2.2.2.1) (b := t) (by omega) (by omega)).mp c_24
              refine lv_iload_n zx zb dX12_wantsBy_100 rfl (lv_at hl 2 rfl) ?_
              refine lv_iload zx zb dX12_wantsBy_101 (lv_at hl 4 rfl) ?_
              refine lv_if_eq (tgt := 112) zx zb dX12_wantsBy_103 (by decide) (fun c_103 => ?_) (fun c_103 => ?_)
              · have c_103 : a = false := bI_0.mp c_103
                refine lv_iconst (v := nI 0) zx zb dX12_wantsBy_112 (by decide) ?_
                refine lv_ior zx zb dX12_wantsBy_113 ?_
                refine g_top (y := s ||| 0) rfl ?_
                refine lv_istore_n (lv' := [(2, .int (s ||| 0)), (0, .ref (m 0)), (1, .int k), (3, .int (nI i)), (4, .int (bI a)), (5, .int (nI t))]) zx zb dX12_wantsBy_114 rfl hl (by decide) rfl (fun ls hl => ?_)
                refine lv_iinc (v := nI (i + 1)) (lv' := [(3, .int (nI (i + 1))), (2, .int (s ||| 0)), (0, .ref (m 0)), (1, .int k), (4, .int (bI a)), (5, .int (nI t))]) zx zb dX12_wantsBy_115 hl (k := 3) rfl (nI_inc _ 1) (by decide) rfl (fun ls hl => ?_)
                refine lv_goto (tgt := 4) zx zb dX12_wantsBy_118 (by decide) ?_
                exact ih4 (i + 1) (s ||| 0) (by omega) (by have et : t = C.2.2.2.2.2.2.2.1 := (by omega); subst et; rw [fitW, ← hs, ← show a = allN (coFit1 C k (wetB C Y (nI i))) (coDc C) from ha]; first | rw [c_103, if_pos rfl] | (rw [c_103, if_neg Bool.false_ne_true]; exact or_zero _)) (by omega) _ _ hP hD hS _ (lv_sub hl [2, 3, 1, 0] rfl)
              · have c_103 : a = true := bI_ne c_103
                refine lv_iconst (v := nI 1) zx zb dX12_wantsBy_106 (by decide) ?_
                refine lv_iload_n zx zb dX12_wantsBy_107 rfl (lv_at hl 3 rfl) ?_
                refine lv_ishl zx zb dX12_wantsBy_108 ?_
                refine g_top (y := bit i) (sh31l _ (by omega)) ?_
                refine lv_goto (tgt := 113) zx zb dX12_wantsBy_109 (by decide) ?_
                refine lv_ior zx zb dX12_wantsBy_113 ?_
                refine lv_istore_n (lv' := [(2, .int (s ||| (bit i))), (0, .ref (m 0)), (1, .int k), (3, .int (nI i)), (4, .int (bI a)), (5, .int (nI t))]) zx zb dX12_wantsBy_114 rfl hl (by decide) rfl (fun ls hl => ?_)
                refine lv_iinc (v := nI (i + 1)) (lv' := [(3, .int (nI (i + 1))), (2, .int (s ||| (bit i))), (0, .ref (m 0)), (1, .int k), (4, .int (bI a)), (5, .int (nI t))]) zx zb dX12_wantsBy_115 hl (k := 3) rfl (nI_inc _ 1) (by decide) rfl (fun ls hl => ?_)
                refine lv_goto (tgt := 4) zx zb dX12_wantsBy_118 (by decide) ?_
                exact ih4 (i + 1) (s ||| (bit i)) (by omega) (by have et : t = C.2.2.2.2.2.2.2.1 := (by omega); subst et; rw [fitW, ← hs, ← show a = allN (coFit1 C k (wetB C Y (nI i))) (coDc C) from ha]; first | rw [c_103, if_pos rfl] | (rw [c_103, if_neg Bool.false_ne_true]; exact or_zero _)) (by omega) _ _ hP hD hS _ (lv_sub hl [2, 3, 1, 0] rfl)
            · have c_24 : ¬ (C.2.2.2.2.2.2.2.1 ≤ t) := fun h => c_24 ((nI_leI (a := C.2.2.2.2.2.2.2.1) (b := t) (by omega) (by omega)).mpr h)
              refine lv_bipush (v := nI 97) zx zb dX12_wantsBy_27 (by decide) ?_
              refine lv_iconst (v := nI 3) zx zb dX12_wantsBy_29 (by decide) ?_
              refine lv_iload zx zb dX12_wantsBy_30 (lv_at hl 5 rfl) ?_
              refine lv_imul zx zb dX12_wantsBy_32 ?_
              refine g_top (y := nI (3 * t)) (pk_mul 3 t) ?_
              refine lv_iadd zx zb dX12_wantsBy_33 ?_
              refine g_top (y := nI (97 + (3 * t))) (nI_add 97 (3 * t)) ?_
              refine lv_istore (lv' := [(6, .int (nI (97 + (3 * t)))), (0, .ref (m 0)), (1, .int k), (2, .int s), (3, .int (nI i)), (4, .int (bI a)), (5, .int (nI t))]) zx zb dX12_wantsBy_34 hl (by decide) rfl (fun ls hl => ?_)
              refine lv_iload zx zb dX12_wantsBy_36 (lv_at hl 5 rfl) ?_
              refine lv_if_eq (tgt := 91) zx zb dX12_wantsBy_38 (by decide) (fun c_38 => ?_) (fun c_38 => ?_)
              · have c_38 : a = false := bI_0.mp c_38
                refine lv_iconst (v := nI 0) zx zb dX12_wantsBy_91 (by decide) ?_
                refine lv_istore (lv' := [(4, .int (nI 0)), (6, .int (nI (97 + (3 * t)))), (0, .ref (m 0)), (1, .int k), (2, .int s), (3, .int (nI i)), (5, .int (nI t))]) zx zb dX12_wantsBy_92 hl (by decide) rfl (fun ls hl => ?_)
                refine lv_iinc (v := nI (t + 1)) (lv' := [(5, .int (nI (t + 1))), (4, .int (nI 0)), (6, .int (nI (97 + (3 * t)))), (0, .ref (m 0)), (1, .int k), (2, .int s), (3, .int (nI i))]) zx zb dX12_wantsBy_94 hl (k := 6) rfl (nI_inc _ 1) (by decide) rfl (fun ls hl => ?_)
                refine lv_goto (tgt := 16) zx zb dX12_wantsBy_97 (by decide) ?_
                exact ih16 (t + 1) false (by omega) (by first | exact fi_1 ha c_38 | exact fb_2 hr (by omega) ha c_38 c_49 | exact fb_y hr hDD (by omega) ha c_38 false (decide_eq_false c_76) (bI_0.mp c_84) | exact fb_n hr hDD (by omega) ha c_49 false (decide_eq_false c_76) (bI_ne c_84) | exact fb_y hr hDD (by omega) ha c_38 true (decide_eq_true c_76) (bI_1.mp c_84) | exact fb_n hr hDD (by omega) ha c_49 true (decide_eq_true c_76) (bI_n1 c_84)) (by omega) _ _ hP hD hS _ (lv_sub hl [3, 4, 5, 6, 1, 0] rfl)
              · have c_38 : a = true := bI_ne c_38
                refine lv_aload_n zx zb dX12_wantsBy_41 rfl (lv_at hl 1 rfl) ?_
                refine g_get (v := .ref (m 1)) XX hP 0 0 rfl rfl rfl iwX12 0 (by decide) fl_X12_7 rfl dX12_wantsBy_42 ?_
                refine lv_iload zx zb dX12_wantsBy_45 (lv_at hl 0 rfl) ?_
                refine g_ialdN (i := 97 + (3 * t)) XX hP 1 0 rfl rfl (by omega) (by decide) dX12_wantsBy_47 ?_
                refine lv_iload_n zx zb dX12_wantsBy_48 rfl (lv_at hl 2 rfl) ?_
                refine lv_icmp_ne (tgt := 87) zx zb dX12_wantsBy_49 (by decide) (fun c_49 => ?_) (fun c_49 => ?_)
                · have c_49 : ¬ ((b (97 + (3 * t))) = k) := c_49
                  refine lv_iconst (v := nI 1) zx zb dX12_wantsBy_87 (by decide) ?_
                  refine lv_goto (tgt := 92) zx zb dX12_wantsBy_88 (by decide) ?_
                  refine lv_istore (lv' := [(4, .int (nI 1)), (6, .int (nI (97 + (3 * t)))), (0, .ref (m 0)), (1, .int k), (2, .int s), (3, .int (nI i)), (5, .int (nI t))]) zx zb dX12_wantsBy_92 hl (by decide) rfl (fun ls hl => ?_)
                  refine lv_iinc (v := nI (t + 1)) (lv' := [(5, .int (nI (t + 1))), (4, .int (nI 1)), (6, .int (nI (97 + (3 * t)))), (0, .ref (m 0)), (1, .int k), (2, .int s), (3, .int (nI i))]) zx zb dX12_wantsBy_94 hl (k := 6) rfl (nI_inc _ 1) (by decide) rfl (fun ls hl => ?_)
                  refine lv_goto (tgt := 16) zx zb dX12_wantsBy_97 (by decide) ?_
                  exact ih16 (t + 1) true (by omega) (by first | exact fi_1 ha c_38 | exact fb_2 hr (by omega) ha c_38 c_49 | exact fb_y hr hDD (by omega) ha c_38 false (decide_eq_false c_76) (bI_0.mp c_84) | exact fb_n hr hDD (by omega) ha c_49 false (decide_eq_false c_76) (bI_ne c_84) | exact fb_y hr hDD (by omega) ha c_38 true (decide_eq_true c_76) (bI_1.mp c_84) | exact fb_n hr hDD (by omega) ha c_49 true (decide_eq_true c_76) (bI_n1 c_84)) (by omega) _ _ hP hD hS _ (lv_sub hl [3, 4, 5, 6, 1, 0] rfl)
                · have c_49 : (b (97 + (3 * t))) = k := c_49
                  refine lv_aload_n zx zb dX12_wantsBy_52 rfl (lv_at hl 1 rfl) ?_
                  refine lv_aload_n zx zb dX12_wantsBy_53 rfl (lv_at hl 1 rfl) ?_
                  refine g_get (v := .ref (m 1)) XX hP 0 0 rfl rfl rfl iwX12 0 (by decide) fl_X12_7 rfl dX12_wantsBy_54 ?_
                  refine lv_iload zx zb dX12_wantsBy_57 (lv_at hl 0 rfl) ?_
                  refine lv_iconst (v := nI 1) zx zb dX12_wantsBy_59 (by decide) ?_
                  refine lv_iadd zx zb dX12_wantsBy_60 ?_
                  refine g_top (y := nI (97 + (3 * t) + 1)) (nI_add (97 + (3 * t)) 1) ?_
                  refine g_ialdN (i := 97 + (3 * t) + 1) XX hP 1 0 rfl rfl (by omega) (by decide) dX12_wantsBy_61 ?_
                  refine lv_iload_n zx zb dX12_wantsBy_62 rfl (lv_at hl 4 rfl) ?_
                  refine call_Vi (As := [.int (b (97 + (3 * t) + 1)), .int (nI i)]) (rest := []) XX cv_X12_270 (c_X12_isWetBy Γ l m M b C tr Y pc P (b (97 + (3 * t) + 1)) (nI i) (hr) (hI)) hP hD hS hA [0, 1] (by decide) rfl (fun _ => rfl) 0 0 rfl rfl rfl rfl hl.1 rfl ⟨⟨by decide, by decide⟩, by decide, by decide⟩ (Nat.le_of_ble_eq_true rfl) dX12_wantsBy_63 (fun r_63 u H locs hw hP hD hS => ?_)
                  have hw := hw.symm
                  subst hw
                  have hP : bP Γ [bMo Γ m M, bA Γ (m 1) 259 b] H := hP
                  have hD : bD AA [bMo Γ m M, bA Γ (m 1) 259 b] := hD
                  refine lv_aload_n zx zb dX12_wantsBy_66 rfl (lv_at hl 1 rfl) ?_
                  refine g_get (v := .ref (m 1)) XX hP 0 0 rfl rfl rfl iwX12 0 (by decide) fl_X12_7 rfl dX12_wantsBy_67 ?_
                  refine lv_iload zx zb dX12_wantsBy_70 (lv_at hl 0 rfl) ?_
                  refine lv_iconst (v := nI 2) zx zb dX12_wantsBy_72 (by decide) ?_
                  refine lv_iadd zx zb dX12_wantsBy_73 ?_
                  refine g_top (y := nI (97 + (3 * t) + 2)) (nI_add (97 + (3 * t)) 2) ?_
                  refine g_ialdN (i := 97 + (3 * t) + 2) XX hP 1 0 rfl rfl (by omega) (by decide) dX12_wantsBy_74 ?_
                  refine lv_iconst (v := nI 1) zx zb dX12_wantsBy_75 (by decide) ?_
                  refine lv_icmp_ne (tgt := 83) zx zb dX12_wantsBy_76 (by decide) (fun c_76 => ?_) (fun c_76 => ?_)
                  · have c_76 : ¬ ((b (97 + (3 * t) + 2)) = (1 : Int32)) := c_76
                    refine lv_iconst (v := nI 0) zx zb dX12_wantsBy_83 (by decide) ?_
                    refine lv_icmp_ne (tgt := 91) zx zb dX12_wantsBy_84 (by decide) (fun c_84 => ?_) (fun c_84 => ?_)
                    · have c_84 : ¬ ((bI (decide ((wetB C Y (nI i) >>> ((b (97 + (3 * t) + 1)) &&& 31)) &&& 1 = 1))) = (0 : Int32)) := c_84
                      refine lv_iconst (v := nI 0) zx zb dX12_wantsBy_91 (by decide) ?_
                      refine lv_istore (lv' := [(4, .int (nI 0)), (6, .int (nI (97 + (3 * t)))), (0, .ref (m 0)), (1, .int k), (2, .int s), (3, .int (nI i)), (5, .int (nI t))]) zx zb dX12_wantsBy_92 hl (by decide) rfl (fun ls hl => ?_)
                      refine lv_iinc (v := nI (t + 1)) (lv' := [(5, .int (nI (t + 1))), (4, .int (nI 0)), (6, .int (nI (97 + (3 * t)))), (0, .ref (m 0)), (1, .int k), (2, .int s), (3, .int (nI i))]) zx zb dX12_wantsBy_94 hl (k := 6) rfl (nI_inc _ 1) (by decide) rfl (fun ls hl => ?_)
                      refine lv_goto (tgt := 16) zx zb dX12_wantsBy_97 (by decide) ?_
                      exact ih16 (t + 1) false (by omega) (by first | exact fi_1 ha c_38 | exact fb_2 hr (by omega) ha c_38 c_49 | exact fb_y hr hDD (by omega) ha c_38 false (decide_eq_false c_76) (bI_0.mp c_84) | exact fb_n hr hDD (by omega) ha c_49 false (decide_eq_false c_76) (bI_ne c_84) | exact fb_y hr hDD (by omega) ha c_38 true (decide_eq_true c_76) (bI_1.mp c_84) | exact fb_n hr hDD (by omega) ha c_49 true (decide_eq_true c_76) (bI_n1 c_84)) (by omega) _ _ hP hD hS _ (lv_sub hl [3, 4, 5, 6, 1, 0] rfl)
                    · have c_84 : (bI (decide ((wetB C Y (nI i) >>> ((b (97 + (3 * t) + 1)) &&& 31)) &&& 1 = 1))) = (0 : Int32) := c_84
                      refine lv_iconst (v := nI 1) zx zb dX12_wantsBy_87 (by decide) ?_
                      refine lv_goto (tgt := 92) zx zb dX12_wantsBy_88 (by decide) ?_
                      refine lv_istore (lv' := [(4, .int (nI 1)), (6, .int (nI (97 + (3 * t)))), (0, .ref (m 0)), (1, .int k), (2, .int s), (3, .int (nI i)), (5, .int (nI t))]) zx zb dX12_wantsBy_92 hl (by decide) rfl (fun ls hl => ?_)
                      refine lv_iinc (v := nI (t + 1)) (lv' := [(5, .int (nI (t + 1))), (4, .int (nI 1)), (6, .int (nI (97 + (3 * t)))), (0, .ref (m 0)), (1, .int k), (2, .int s), (3, .int (nI i))]) zx zb dX12_wantsBy_94 hl (k := 6) rfl (nI_inc _ 1) (by decide) rfl (fun ls hl => ?_)
                      refine lv_goto (tgt := 16) zx zb dX12_wantsBy_97 (by decide) ?_
                      exact ih16 (t + 1) true (by omega) (by first | exact fi_1 ha c_38 | exact fb_2 hr (by omega) ha c_38 c_49 | exact fb_y hr hDD (by omega) ha c_38 false (decide_eq_false c_76) (bI_0.mp c_84) | exact fb_n hr hDD (by omega) ha c_49 false (decide_eq_false c_76) (bI_ne c_84) | exact fb_y hr hDD (by omega) ha c_38 true (decide_eq_true c_76) (bI_1.mp c_84) | exact fb_n hr hDD (by omega) ha c_49 true (decide_eq_true c_76) (bI_n1 c_84)) (by omega) _ _ hP hD hS _ (lv_sub hl [3, 4, 5, 6, 1, 0] rfl)
                  · have c_76 : (b (97 + (3 * t) + 2)) = (1 : Int32) := c_76
                    refine lv_iconst (v := nI 1) zx zb dX12_wantsBy_79 (by decide) ?_
                    refine lv_goto (tgt := 84) zx zb dX12_wantsBy_80 (by decide) ?_
                    refine lv_icmp_ne (tgt := 91) zx zb dX12_wantsBy_84 (by decide) (fun c_84 => ?_) (fun c_84 => ?_)
                    · have c_84 : ¬ ((bI (decide ((wetB C Y (nI i) >>> ((b (97 + (3 * t) + 1)) &&& 31)) &&& 1 = 1))) = (1 : Int32)) := c_84
                      refine lv_iconst (v := nI 0) zx zb dX12_wantsBy_91 (by decide) ?_
                      refine lv_istore (lv' := [(4, .int (nI 0)), (6, .int (nI (97 + (3 * t)))), (0, .ref (m 0)), (1, .int k), (2, .int s), (3, .int (nI i)), (5, .int (nI t))]) zx zb dX12_wantsBy_92 hl (by decide) rfl (fun ls hl => ?_)
                      refine lv_iinc (v := nI (t + 1)) (lv' := [(5, .int (nI (t + 1))), (4, .int (nI 0)), (6, .int (nI (97 + (3 * t)))), (0, .ref (m 0)), (1, .int k), (2, .int s), (3, .int (nI i))]) zx zb dX12_wantsBy_94 hl (k := 6) rfl (nI_inc _ 1) (by decide) rfl (fun ls hl => ?_)
                      refine lv_goto (tgt := 16) zx zb dX12_wantsBy_97 (by decide) ?_
                      exact ih16 (t + 1) false (by omega) (by first | exact fi_1 ha c_38 | exact fb_2 hr (by omega) ha c_38 c_49 | exact fb_y hr hDD (by omega) ha c_38 false (decide_eq_false c_76) (bI_0.mp c_84) | exact fb_n hr hDD (by omega) ha c_49 false (decide_eq_false c_76) (bI_ne c_84) | exact fb_y hr hDD (by omega) ha c_38 true (decide_eq_true c_76) (bI_1.mp c_84) | exact fb_n hr hDD (by omega) ha c_49 true (decide_eq_true c_76) (bI_n1 c_84)) (by omega) _ _ hP hD hS _ (lv_sub hl [3, 4, 5, 6, 1, 0] rfl)
                    · have c_84 : (bI (decide ((wetB C Y (nI i) >>> ((b (97 + (3 * t) + 1)) &&& 31)) &&& 1 = 1))) = (1 : Int32) := c_84
                      refine lv_iconst (v := nI 1) zx zb dX12_wantsBy_87 (by decide) ?_
                      refine lv_goto (tgt := 92) zx zb dX12_wantsBy_88 (by decide) ?_
                      refine lv_istore (lv' := [(4, .int (nI 1)), (6, .int (nI (97 + (3 * t)))), (0, .ref (m 0)), (1, .int k), (2, .int s), (3, .int (nI i)), (5, .int (nI t))]) zx zb dX12_wantsBy_92 hl (by decide) rfl (fun ls hl => ?_)
                      refine lv_iinc (v := nI (t + 1)) (lv' := [(5, .int (nI (t + 1))), (4, .int (nI 1)), (6, .int (nI (97 + (3 * t)))), (0, .ref (m 0)), (1, .int k), (2, .int s), (3, .int (nI i))]) zx zb dX12_wantsBy_94 hl (k := 6) rfl (nI_inc _ 1) (by decide) rfl (fun ls hl => ?_)
                      refine lv_goto (tgt := 16) zx zb dX12_wantsBy_97 (by decide) ?_
                      exact ih16 (t + 1) true (by omega) (by first | exact fi_1 ha c_38 | exact fb_2 hr (by omega) ha c_38 c_49 | exact fb_y hr hDD (by omega) ha c_38 false (decide_eq_false c_76) (bI_0.mp c_84) | exact fb_n hr hDD (by omega) ha c_49 false (decide_eq_false c_76) (bI_ne c_84) | exact fb_y hr hDD (by omega) ha c_38 true (decide_eq_true c_76) (bI_1.mp c_84) | exact fb_n hr hDD (by omega) ha c_49 true (decide_eq_true c_76) (bI_n1 c_84)) (by omega) _ _ hP hD hS _ (lv_sub hl [3, 4, 5, 6, 1, 0] rfl)
        exact L16 _ 0 true (by omega) (rfl) (Nat.lt_succ_self _) _ _ hP hD hS _ (lv_sub hl [2, 3, 4, 5, 1, 0] rfl)
  exact L4 _ 0 0 (by omega) (rfl) (Nat.lt_succ_self _) _ _ hP hD hS _ (lv_sub hl [2, 3, 1, 0] rfl)
