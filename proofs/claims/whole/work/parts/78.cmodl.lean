theorem cv_X12_218 : CWV RX12 218 RX12 yX12_goes cX12_goes 6 (some (.int)) 1 := ⟨cd_X12_goes, im_X12_goes, se_X12_X12_goes_X12_goes, in_X12, ml_X12_218, by decide +kernel⟩
set_option maxHeartbeats 4000000 in
set_option maxRecDepth 100000 in
theorem c_X12_floodsIn (Γ : GG) (l : Launch) (m : Nat → Nat) (M : MoV) (b : Nat → Int32) (C : CoV) (tr : Nat → TrV) (Y : YrV) (pc : Nat) (P : Nat → YrV) (n : Nat) (y : Nat) (hr : Rel b C tr Y pc P) (hI : Inv C tr Y) (hy : Y.1 = nI y) (hyn : y + n < 1000000) : Ci Γ l yX12_floodsIn cX12_floodsIn 4 (some (.int)) 4 98 0 0 [.ref (m 0), .int (nI n)] [bMo Γ m M, bA Γ (m 1) 259 b] (fun (r : Int32) (u : Nat → Int32) => r = flB C tr Y n ∧ Rel u C tr (runM C tr Y n) pc P) (fun (u : Nat → Int32) => [bMo Γ m M, bA Γ (m 1) 259 u]) := by
  refine Ci.of (Or.inl rfl) (by decide) (Nat.le_of_ble_eq_true rfl) ?_
  intro pp ee ss mm bb me cd AA QQ XX hnm hA hP hD fin ls hl
  obtain ⟨zx, zb, hml, hown, hts, hK⟩ := id XX
  have hS : va_S AA ss.heap ss.heap [] := va_S.rf
  have hl : lv_has ls 4 [(0, .ref (m 0)), (1, .int (nI n))] := hl
  have htc := inv_tc hI
  have hdc := inv_dc hI
  have hn := inv_n hI
  refine lv_iconst (v := nI 0) zx zb dX12_floodsIn_0 (by decide) ?_
  refine lv_istore_n (lv' := [(2, .int (nI 0)), (0, .ref (m 0)), (1, .int (nI n))]) zx zb dX12_floodsIn_1 rfl hl (by decide) rfl (fun ls hl => ?_)
  refine lv_iconst (v := nI 0) zx zb dX12_floodsIn_2 (by decide) ?_
  refine lv_istore_n (lv' := [(3, .int (nI 0)), (2, .int (nI 0)), (0, .ref (m 0)), (1, .int (nI n))]) zx zb dX12_floodsIn_3 rfl hl (by decide) rfl (fun ls hl => ?_)
  have L4 : ∀ (nn : Nat) (i : Nat) (a : Int32) (b1 : Nat → Int32), (i ≤ n) → (a = flB C tr Y i) → (Rel b1 C tr (runM C tr Y i) pc P) → n - i < nn → ∀ (H : Heap) (locs : List Loc), bP Γ [bMo Γ m M, bA Γ (m 1) 259 b1] H → bD AA [bMo Γ m M, bA Γ (m 1) 259 b1] → va_S AA ss.heap H locs → ∀ (ls : Array Slot), lv_has ls 4 [(0, .ref (m 0)), (1, .int (nI n)), (2, .int a), (3, .int (nI i))] → W pp l ee { frames := 4, cells := 0, slots := 0, locals := 98 } ss mm [.ref (m 0), .int (nI n)].toArray bb me cd H locs 0 0 QQ (F0 mm 4 ls []) := by
    intro nn
    induction nn with
    | zero => intro i a b1 hi ha hr1 hm; exact absurd hm (Nat.not_lt_zero _)
    | succ nn ih4 =>
      intro i a b1 hi ha hr1 hm4 H locs hP hD hS ls hl
      have hIZ : Inv C tr (runM C tr Y i) := inv_run hI hy (by omega)
      refine lv_iload_n zx zb dX12_floodsIn_4 rfl (lv_at hl 3 rfl) ?_
      refine lv_iload_n zx zb dX12_floodsIn_5 rfl (lv_at hl 1 rfl) ?_
      refine lv_icmp_ge (tgt := 35) zx zb dX12_floodsIn_6 (by decide) (fun c_6 => ?_) (fun c_6 => ?_)
      · have c_6 : n ≤ i := (nI_leI (a := n) (b := i) (by omega) (by omega)).mp c_6
        refine lv_iload_n zx zb dX12_floodsIn_35 rfl (lv_at hl 2 rfl) ?_
        exact fin _ _ a b1 36 _ dX12_floodsIn_36 (fun h => by cases h) (⟨by have e : i = n := (by omega); subst e; exact ha, by have e : i = n := (by omega); subst e; exact hr1⟩) hP hD hS
      · have c_6 : ¬ (n ≤ i) := fun h => c_6 ((nI_leI (a := n) (b := i) (by omega) (by omega)).mpr h)
        refine lv_iload_n zx zb dX12_floodsIn_9 rfl (lv_at hl 2 rfl) ?_
        refine lv_aload_n zx zb dX12_floodsIn_10 rfl (lv_at hl 0 rfl) ?_
        refine lv_aload_n zx zb dX12_floodsIn_11 rfl (lv_at hl 0 rfl) ?_
        refine lv_aload_n zx zb dX12_floodsIn_12 rfl (lv_at hl 0 rfl) ?_
        refine g_get (v := .ref (m 1)) XX hP 0 0 rfl rfl rfl iwX12 0 (by decide) fl_X12_7 rfl dX12_floodsIn_13 ?_
        refine lv_iconst (v := nI 1) zx zb dX12_floodsIn_16 (by decide) ?_
        refine g_ialdN (i := 1) XX hP 1 0 rfl rfl (by omega) (by decide) dX12_floodsIn_17 ?_
        refine g_top (y := (runM C tr Y i).1) (Rel.y hr1) ?_
        refine call_Vi (As := [.int ((runM C tr Y i).1)]) (rest := [.ref (m 0), .int a]) XX cv_X12_215 (c_X12_stormOf Γ l m M b1 C tr (runM C tr Y i) pc P ((runM C tr Y i).1) (hr1) (hIZ) (inv_y hIZ)) hP hD hS hA [0, 1] (by decide) rfl (fun _ => rfl) 0 0 rfl rfl rfl rfl hl.1 rfl ⟨⟨by decide, by decide⟩, by decide, by decide⟩ (Nat.le_of_ble_eq_true rfl) dX12_floodsIn_18 (fun r_18 u H locs hw hP hD hS => ?_)
        have hw := hw.symm
        subst hw
        have hP : bP Γ [bMo Γ m M, bA Γ (m 1) 259 b1] H := hP
        have hD : bD AA [bMo Γ m M, bA Γ (m 1) 259 b1] := hD
        refine call_Vi (As := [.int (coStorm C ((runM C tr Y i).1))]) (rest := [.int a]) XX cv_X12_218 (c_X12_goes Γ l m M b1 C tr (runM C tr Y i) pc P (coStorm C ((runM C tr Y i).1)) (hr1) (hIZ)) hP hD hS hA [0, 1] (by decide) rfl (fun _ => rfl) 0 0 rfl rfl rfl rfl hl.1 rfl ⟨⟨by decide, by decide⟩, by decide, by decide⟩ (Nat.le_of_ble_eq_true rfl) dX12_floodsIn_21 (fun r_21 u H locs hw hP hD hS => ?_)
        obtain ⟨u_21, rfl⟩ : ∃ z, z = u := ⟨_, rfl⟩
        have w_21 := hw
        have hP : bP Γ [bMo Γ m M, bA Γ (m 1) 259 u_21] H := hP
        have hD : bD AA [bMo Γ m M, bA Γ (m 1) 259 u_21] := hD
        refine callR_Si (As := [.int r_21]) (rest := [.int a]) XX cs_X12_246 (c_X12_bits Γ l r_21 ) hP hD hS hA nil_mem nil_D rfl hl.1 rfl ⟨⟨by decide, by decide⟩, by decide, by decide⟩ (Nat.le_of_ble_eq_true rfl) dX12_floodsIn_24 (fun r_24 H locs hw hP hS => ?_)
        have hw := hw.symm
        subst hw
        refine lv_iadd zx zb dX12_floodsIn_27 ?_
        refine lv_istore_n (lv' := [(2, .int (a + (bitsN r_21 8))), (0, .ref (m 0)), (1, .int (nI n)), (3, .int (nI i))]) zx zb dX12_floodsIn_28 rfl hl (by decide) rfl (fun ls hl => ?_)
        refine lv_iinc (v := nI (i + 1)) (lv' := [(3, .int (nI (i + 1))), (2, .int (a + (bitsN r_21 8))), (0, .ref (m 0)), (1, .int (nI n))]) zx zb dX12_floodsIn_29 hl (k := 3) rfl (nI_inc _ 1) (by decide) rfl (fun ls hl => ?_)
        refine lv_goto (tgt := 4) zx zb dX12_floodsIn_32 (by decide) ?_
        exact ih4 (i + 1) (a + (bitsN r_21 8)) u_21 (by omega) (by rw [flB, ← ha, w_21.1]; rfl) (w_21.2) (by omega) _ _ hP hD hS _ (lv_sub hl [2, 3, 1, 0] rfl)
  exact L4 _ 0 0 b (by omega) (rfl) (hr) (Nat.lt_succ_self _) _ _ hP hD hS _ (lv_sub hl [2, 3, 1, 0] rfl)
