
set_option maxHeartbeats 4000000 in
set_option maxRecDepth 100000 in
theorem c_X12_holdsRow (Γ : GG) (l : Launch) (m : Nat → Nat) (M : MoV) (b : Nat → Int32) (hh : Nat → Int32)  : Cv Γ l yX12_holdsRow cX12_holdsRow 2 none 0 0 0 0 [.ref (m 0)] [bMo Γ m M, bA Γ (m 1) 259 b, bA Γ (m 5) 259 hh] (fun (u : Nat → Int32) => ∀ k, k < 259 → u k = b k) (fun (u : Nat → Int32) => [bMo Γ m M, bA Γ (m 1) 259 b, bA Γ (m 5) 259 u]) := by
  refine Cv.of rfl (by decide) (Nat.le_of_ble_eq_true rfl) ?_
  intro pp ee ss mm bb me cd AA QQ XX hnm hA hP hD fin ls hl
  obtain ⟨zx, zb, hml, hown, hts, hK⟩ := id XX
  have hS : va_S AA ss.heap ss.heap [] := va_S.rf
  have hl : lv_has ls 2 [(0, .ref (m 0))] := hl
  refine lv_iconst (v := nI 0) zx zb dX12_holdsRow_0 (by decide) ?_
  refine lv_istore_n (lv' := [(1, .int (nI 0)), (0, .ref (m 0))]) zx zb dX12_holdsRow_1 rfl hl (by decide) rfl (fun ls hl => ?_)
  have L2 : ∀ (nn : Nat) (i : Nat) (h1 : Nat → Int32), (i ≤ 259) → (∀ k, k < i → h1 k = b k) → 259 - i < nn → ∀ (H : Heap) (locs : List Loc), bP Γ [bMo Γ m M, bA Γ (m 1) 259 b, bA Γ (m 5) 259 h1] H → bD AA [bMo Γ m M, bA Γ (m 1) 259 b, bA Γ (m 5) 259 h1] → va_S AA ss.heap H locs → ∀ (ls : Array Slot), lv_has ls 2 [(0, .ref (m 0)), (1, .int (nI i))] → W pp l ee { frames := 0, cells := 0, slots := 0, locals := 0 } ss mm [.ref (m 0)].toArray bb me cd H locs 0 0 QQ (F0 mm 2 ls []) := by
    intro nn
    induction nn with
    | zero => intro i h1 hi hz hm; exact absurd hm (Nat.not_lt_zero _)
    | succ nn ih2 =>
      intro i h1 hi hz hm2 H locs hP hD hS ls hl
      refine lv_iload_n zx zb dX12_holdsRow_2 rfl (lv_at hl 1 rfl) ?_
      refine lv_sipush (v := nI 259) zx zb dX12_holdsRow_3 (by decide) ?_
      refine lv_icmp_ge (tgt := 27) zx zb dX12_holdsRow_6 (by decide) (fun c_6 => ?_) (fun c_6 => ?_)
      · have c_6 : 259 ≤ i := (nI_leI (a := 259) (b := i) (by omega) (by omega)).mp c_6
        exact fin _ _ h1 27 _ dX12_holdsRow_27 (fun k hk => hz k (by omega)) hP hD hS
      · have c_6 : ¬ (259 ≤ i) := fun h => c_6 ((nI_leI (a := 259) (b := i) (by omega) (by omega)).mpr h)
        refine lv_aload_n zx zb dX12_holdsRow_9 rfl (lv_at hl 0 rfl) ?_
        refine g_get (v := .ref (m 5)) XX hP 0 0 rfl rfl rfl iwX12 4 (by decide) fl_X12_23 rfl dX12_holdsRow_10 ?_
        refine lv_iload_n zx zb dX12_holdsRow_13 rfl (lv_at hl 1 rfl) ?_
        refine lv_aload_n zx zb dX12_holdsRow_14 rfl (lv_at hl 0 rfl) ?_
        refine g_get (v := .ref (m 1)) XX hP 0 0 rfl rfl rfl iwX12 0 (by decide) fl_X12_7 rfl dX12_holdsRow_15 ?_
        refine lv_iload_n zx zb dX12_holdsRow_18 rfl (lv_at hl 1 rfl) ?_
        refine g_ialdN (i := i) XX hP 1 0 rfl rfl (by omega) (by decide) dX12_holdsRow_19 ?_
        refine g_iastN (x := b i) (i := i) (blk' := bA Γ (m 5) 259 (upd h1 i (b i))) (bs' := [bMo Γ m M, bA Γ (m 1) 259 b, bA Γ (m 5) 259 (upd h1 i (b i))]) XX hP hD hS 2 0 rfl rfl (by omega) (by decide) rfl rfl dX12_holdsRow_20 (fun H locs hP hD hS => ?_)
        refine lv_iinc (v := nI (i + 1)) (lv' := [(1, .int (nI (i + 1))), (0, .ref (m 0))]) zx zb dX12_holdsRow_21 hl (k := 1) rfl (nI_inc _ 1) (by decide) rfl (fun ls hl => ?_)
        refine lv_goto (tgt := 2) zx zb dX12_holdsRow_24 (by decide) ?_
        exact ih2 (i + 1) (upd h1 i (b i)) (by omega) (cpy_s hz) (by omega) _ _ hP hD hS _ (lv_sub hl [1, 0] rfl)
  exact L2 _ 0 hh (by omega) (fun k hk => absurd hk (Nat.not_lt_zero _)) (Nat.lt_succ_self _) _ _ hP hD hS _ (lv_sub hl [1, 0] rfl)

set_option maxHeartbeats 4000000 in
set_option maxRecDepth 100000 in
theorem c_X12_laysBack (Γ : GG) (l : Launch) (m : Nat → Nat) (M : MoV) (b : Nat → Int32) (hh : Nat → Int32)  : Cv Γ l yX12_laysBack cX12_laysBack 2 none 0 0 0 0 [.ref (m 0)] [bMo Γ m M, bA Γ (m 1) 259 b, bA Γ (m 5) 259 hh] (fun (u : Nat → Int32) => ∀ k, k < 259 → u k = hh k) (fun (u : Nat → Int32) => [bMo Γ m M, bA Γ (m 1) 259 u, bA Γ (m 5) 259 hh]) := by
  refine Cv.of rfl (by decide) (Nat.le_of_ble_eq_true rfl) ?_
  intro pp ee ss mm bb me cd AA QQ XX hnm hA hP hD fin ls hl
  obtain ⟨zx, zb, hml, hown, hts, hK⟩ := id XX
  have hS : va_S AA ss.heap ss.heap [] := va_S.rf
  have hl : lv_has ls 2 [(0, .ref (m 0))] := hl
  refine lv_iconst (v := nI 0) zx zb dX12_laysBack_0 (by decide) ?_
  refine lv_istore_n (lv' := [(1, .int (nI 0)), (0, .ref (m 0))]) zx zb dX12_laysBack_1 rfl hl (by decide) rfl (fun ls hl => ?_)
  have L2 : ∀ (nn : Nat) (i : Nat) (h1 : Nat → Int32), (i ≤ 259) → (∀ k, k < i → h1 k = hh k) → 259 - i < nn → ∀ (H : Heap) (locs : List Loc), bP Γ [bMo Γ m M, bA Γ (m 1) 259 h1, bA Γ (m 5) 259 hh] H → bD AA [bMo Γ m M, bA Γ (m 1) 259 h1, bA Γ (m 5) 259 hh] → va_S AA ss.heap H locs → ∀ (ls : Array Slot), lv_has ls 2 [(0, .ref (m 0)), (1, .int (nI i))] → W pp l ee { frames := 0, cells := 0, slots := 0, locals := 0 } ss mm [.ref (m 0)].toArray bb me cd H locs 0 0 QQ (F0 mm 2 ls []) := by
    intro nn
    induction nn with
    | zero => intro i h1 hi hz hm; exact absurd hm (Nat.not_lt_zero _)
    | succ nn ih2 =>
      intro i h1 hi hz hm2 H locs hP hD hS ls hl
      refine lv_iload_n zx zb dX12_laysBack_2 rfl (lv_at hl 1 rfl) ?_
      refine lv_sipush (v := nI 259) zx zb dX12_laysBack_3 (by decide) ?_
      refine lv_icmp_ge (tgt := 27) zx zb dX12_laysBack_6 (by decide) (fun c_6 => ?_) (fun c_6 => ?_)
      · have c_6 : 259 ≤ i := (nI_leI (a := 259) (b := i) (by omega) (by omega)).mp c_6
        exact fin _ _ h1 27 _ dX12_laysBack_27 (fun k hk => hz k (by omega)) hP hD hS
      · have c_6 : ¬ (259 ≤ i) := fun h => c_6 ((nI_leI (a := 259) (b := i) (by omega) (by omega)).mpr h)
        refine lv_aload_n zx zb dX12_laysBack_9 rfl (lv_at hl 0 rfl) ?_
        refine g_get (v := .ref (m 1)) XX hP 0 0 rfl rfl rfl iwX12 0 (by decide) fl_X12_7 rfl dX12_laysBack_10 ?_
        refine lv_iload_n zx zb dX12_laysBack_13 rfl (lv_at hl 1 rfl) ?_
        refine lv_aload_n zx zb dX12_laysBack_14 rfl (lv_at hl 0 rfl) ?_
        refine g_get (v := .ref (m 5)) XX hP 0 0 rfl rfl rfl iwX12 4 (by decide) fl_X12_23 rfl dX12_laysBack_15 ?_
        refine lv_iload_n zx zb dX12_laysBack_18 rfl (lv_at hl 1 rfl) ?_
        refine g_ialdN (i := i) XX hP 2 0 rfl rfl (by omega) (by decide) dX12_laysBack_19 ?_
        refine g_iastN (x := hh i) (i := i) (blk' := bA Γ (m 1) 259 (upd h1 i (hh i))) (bs' := [bMo Γ m M, bA Γ (m 1) 259 (upd h1 i (hh i)), bA Γ (m 5) 259 hh]) XX hP hD hS 1 0 rfl rfl (by omega) (by decide) rfl rfl dX12_laysBack_20 (fun H locs hP hD hS => ?_)
        refine lv_iinc (v := nI (i + 1)) (lv' := [(1, .int (nI (i + 1))), (0, .ref (m 0))]) zx zb dX12_laysBack_21 hl (k := 1) rfl (nI_inc _ 1) (by decide) rfl (fun ls hl => ?_)
        refine lv_goto (tgt := 2) zx zb dX12_laysBack_24 (by decide) ?_
        exact ih2 (i + 1) (upd h1 i (hh i)) (by omega) (cpy_s hz) (by omega) _ _ hP hD hS _ (lv_sub hl [1, 0] rfl)
  exact L2 _ 0 b (by omega) (fun k hk => absurd hk (Nat.not_lt_zero _)) (Nat.lt_succ_self _) _ _ hP hD hS _ (lv_sub hl [1, 0] rfl)
