theorem cv_X12_177 : CWV RX12 177 RX12 yX12_reads cX12_reads 3 (some (.boolean)) 0 := ⟨cd_X12_reads, im_X12_reads, se_X12_X12_reads_X12_reads, in_X12, ml_X12_177, by decide +kernel⟩
theorem cv_X12_181 : CWV RX12 181 RX12 yX12_tellsItem cX12_tellsItem 8 (some (.boolean)) 1 := ⟨cd_X12_tellsItem, im_X12_tellsItem, se_X12_X12_tellsItem_X12_tellsItem, in_X12, ml_X12_181, by decide +kernel⟩
set_option maxHeartbeats 4000000 in
set_option maxRecDepth 100000 in
theorem c_X12_read (Γ : GG) (l : Launch) (m : Nat → Nat) (M : MoV) (b : Nat → Int32) (C : CoV) (tr : Nat → TrV) (Y : YrV) (pc : Nat) (P : Nat → YrV) (f : Nat → Int32) (g : Nat → Int32) (T : Nat → Int32) (as : Nat → Int32) (hr : Rel b C tr Y pc P) (hA0 : IA C tr Y) (hpc : pc ≤ 6) (hq : M.1 = false) (hl0 : M.2.1 ≤ 150) : Ci Γ l yX12_read cX12_read 3 (some (.int)) 4 102 0 0 [.ref (m 0)] [bMo Γ m M, bA Γ (m 1) 259 b, bA Γ (m 6) 3 f, bA Γ (m 7) 150 g, bA Γ (m 8) 350 T, bA Γ (m 4) 259 as] (fun (r : Int32) (u : MoV × (Nat → Int32) × (Nat → Int32) × (Nat → Int32)) => (u.1.1 = false ∧ u.1.2.1 = M.2.1) ∧ rdM g M.2.1 P pc (C, tr, Y) r u.2.1) (fun (u : MoV × (Nat → Int32) × (Nat → Int32) × (Nat → Int32)) => [bMo Γ m u.1, bA Γ (m 1) 259 u.2.1, bA Γ (m 6) 3 f, bA Γ (m 7) 150 g, bA Γ (m 8) 350 u.2.2.1, bA Γ (m 4) 259 u.2.2.2]) := by
  refine Ci.of (Or.inl rfl) (by decide) (Nat.le_of_ble_eq_true rfl) ?_
  intro pp ee ss mm bb me cd AA QQ XX hnm hA hP hD fin ls hl
  obtain ⟨zx, zb, hml, hown, hts, hK⟩ := id XX
  have hS : va_S AA ss.heap ss.heap [] := va_S.rf
  have hl : lv_has ls 3 [(0, .ref (m 0))] := hl
  have hI := hA0.1
  have htc := inv_tc hI
  have hdc := inv_dc hI
  have hn := inv_n hI
  refine lv_aload_n zx zb dX12_read_0 rfl (lv_at hl 0 rfl) ?_
  refine call_Vi (As := []) (rest := []) XX cv_X12_177 (c_X12_reads Γ l m M g T (hl0)) hP hD hS hA [0, 3, 4] (by decide) rfl (fun _ => rfl) 0 0 rfl rfl rfl rfl hl.1 rfl ⟨⟨by decide, by decide⟩, by decide, by decide⟩ (Nat.le_of_ble_eq_true rfl) dX12_read_1 (fun r_1 u H locs hw hP hD hS => ?_)
  obtain ⟨u_1, rfl⟩ : ∃ z, z = u := ⟨_, rfl⟩
  have w_1 := hw
  have hP : bP Γ [bMo Γ m u_1.1, bA Γ (m 1) 259 b, bA Γ (m 6) 3 f, bA Γ (m 7) 150 g, bA Γ (m 8) 350 u_1.2, bA Γ (m 4) 259 as] H := hP
  have hD : bD AA [bMo Γ m u_1.1, bA Γ (m 1) 259 b, bA Γ (m 6) 3 f, bA Γ (m 7) 150 g, bA Γ (m 8) 350 u_1.2, bA Γ (m 4) 259 as] := hD
  refine lv_if_ne (tgt := 15) zx zb dX12_read_4 (by decide) (fun c_4 => ?_) (fun c_4 => ?_)
  · have c_4 : ¬ (r_1 = (0 : Int32)) := c_4
    obtain ⟨S, hE, er, hst, hqt, hit⟩ := w_1
    have hk1 : pOk g M.2.1 S = true := bI_ne (fun q => c_4 (er.trans q))
    obtain ⟨hmn, hiG⟩ := hit hk1
    have hpI := pR_I hE.1
    have hpo := ok_pos hk1
    have hp9 : S.1 ≤ M.2.1 := hpI.1
    have hm49 : 3 * S.2.2.1 ≤ 150 := by rcases hpI.2.1 with q | q <;> omega
    refine lv_iconst (v := nI 0) zx zb dX12_read_15 (by decide) ?_
    refine lv_istore_n (lv' := [(1, .int (nI 0)), (0, .ref (m 0))]) zx zb dX12_read_16 rfl hl (by decide) rfl (fun ls hl => ?_)
    have L17 : ∀ (nn : Nat) (i0 : Nat) (a1 : Nat → Int32), (i0 ≤ 259) → (∀ k, k < i0 → a1 k = b k) → 259 - i0 < nn → ∀ (H : Heap) (locs : List Loc), bP Γ [bMo Γ m u_1.1, bA Γ (m 1) 259 b, bA Γ (m 6) 3 f, bA Γ (m 7) 150 g, bA Γ (m 8) 350 u_1.2, bA Γ (m 4) 259 a1] H → bD AA [bMo Γ m u_1.1, bA Γ (m 1) 259 b, bA Γ (m 6) 3 f, bA Γ (m 7) 150 g, bA Γ (m 8) 350 u_1.2, bA Γ (m 4) 259 a1] → va_S AA ss.heap H locs → ∀ (ls : Array Slot), lv_has ls 3 [(0, .ref (m 0)), (1, .int (nI i0))] → W pp l ee { frames := 4, cells := 0, slots := 0, locals := 102 } ss mm [.ref (m 0)].toArray bb me cd H locs 0 0 QQ (F0 mm 17 ls []) := by
      intro nn
      induction nn with
      | zero => intro i0 a1 hi0 hz hm; exact absurd hm (Nat.not_lt_zero _)
      | succ nn ih17 =>
        intro i0 a1 hi0 hz hm17 H locs hP hD hS ls hl
        refine lv_iload_n zx zb dX12_read_17 rfl (lv_at hl 1 rfl) ?_
        refine lv_sipush (v := nI 259) zx zb dX12_read_18 (by decide) ?_
        refine lv_icmp_ge (tgt := 42) zx zb dX12_read_21 (by decide) (fun c_21 => ?_) (fun c_21 => ?_)
        · have c_21 : 259 ≤ i0 := (nI_leI (a := 259) (b := i0) (by omega) (by omega)).mp c_21
          refine lv_aload_n zx zb dX12_read_42 rfl (lv_at hl 0 rfl) ?_
          refine lv_iconst (v := nI 1) zx zb dX12_read_43 (by decide) ?_
          refine g_put (v := .int (nI 1)) (blk' := bMo Γ m (true, u_1.1.2.1, u_1.1.2.2.1, u_1.1.2.2.2.1, u_1.1.2.2.2.2.1, u_1.1.2.2.2.2.2.1, u_1.1.2.2.2.2.2.2)) (bs' := [bMo Γ m (true, u_1.1.2.1, u_1.1.2.2.1, u_1.1.2.2.2.1, u_1.1.2.2.2.2.1, u_1.1.2.2.2.2.2.1, u_1.1.2.2.2.2.2.2), bA Γ (m 1) 259 b, bA Γ (m 6) 3 f, bA Γ (m 7) 150 g, bA Γ (m 8) 350 u_1.2, bA Γ (m 4) 259 a1]) XX hP hD hS 0 0 rfl rfl rfl iwX12 tyX12_ok nmX12 6 (by decide) fl_X12_45 rfl rfl rfl (Nat.le_of_ble_eq_true rfl) rfl rfl rfl dX12_read_44 (fun H locs hP hD hS => ?_)
          refine lv_iconst (v := nI 0) zx zb dX12_read_47 (by decide) ?_
          refine lv_istore_n (lv' := [(1, .int (nI 0)), (0, .ref (m 0))]) zx zb dX12_read_48 rfl hl (by decide) rfl (fun ls hl => ?_)
          have L49 : ∀ (nn : Nat) (i : Nat) (b1 : Nat → Int32) (f1 : Nat → Int32), (i ≤ S.2.2.1) → (f1 = f) → (∀ j, j < i → refP S (C, tr, Y) j = false) → (Rel b1 (tIs S (C, tr, Y) i).1 (tIs S (C, tr, Y) i).2.1 (tIs S (C, tr, Y) i).2.2 (pcI i pc) P) → S.2.2.1 - i < nn → ∀ (H : Heap) (locs : List Loc), bP Γ [bMo Γ m (true, u_1.1.2.1, u_1.1.2.2.1, u_1.1.2.2.2.1, u_1.1.2.2.2.2.1, u_1.1.2.2.2.2.2.1, u_1.1.2.2.2.2.2.2), bA Γ (m 1) 259 b1, bA Γ (m 6) 3 f1, bA Γ (m 7) 150 g, bA Γ (m 8) 350 u_1.2, bA Γ (m 4) 259 a1] H → bD AA [bMo Γ m (true, u_1.1.2.1, u_1.1.2.2.1, u_1.1.2.2.2.1, u_1.1.2.2.2.2.1, u_1.1.2.2.2.2.2.1, u_1.1.2.2.2.2.2.2), bA Γ (m 1) 259 b1, bA Γ (m 6) 3 f1, bA Γ (m 7) 150 g, bA Γ (m 8) 350 u_1.2, bA Γ (m 4) 259 a1] → va_S AA ss.heap H locs → ∀ (ls : Array Slot), lv_has ls 3 [(0, .ref (m 0)), (1, .int (nI i))] → W pp l ee { frames := 4, cells := 0, slots := 0, locals := 102 } ss mm [.ref (m 0)].toArray bb me cd H locs 0 0 QQ (F0 mm 49 ls []) := by
            intro nn
            induction nn with
            | zero => intro i b1 f1 hi hf1 hp hr1 hm; exact absurd hm (Nat.not_lt_zero _)
            | succ nn ih49 =>
              intro i b1 f1 hi hf1 hp hr1 hm49 H locs hP hD hS ls hl
              refine lv_iload_n zx zb dX12_read_49 rfl (lv_at hl 1 rfl) ?_
              refine lv_aload_n zx zb dX12_read_50 rfl (lv_at hl 0 rfl) ?_
              refine g_get (v := .int (nI (u_1.1.2.2.2.2.2.2))) XX hP 0 0 rfl rfl rfl iwX12 14 (by decide) fl_X12_147 rfl dX12_read_51 ?_
              refine lv_icmp_ge (tgt := 71) zx zb dX12_read_54 (by decide) (fun c_54 => ?_) (fun c_54 => ?_)
              · have c_54 : u_1.1.2.2.2.2.2.2 ≤ i := (nI_leI (a := u_1.1.2.2.2.2.2.2) (b := i) (by omega) (by omega)).mp c_54
                rw [hf1] at hP hD
                refine lv_aload_n zx zb dX12_read_71 rfl (lv_at hl 0 rfl) ?_
                refine lv_iconst (v := nI 0) zx zb dX12_read_72 (by decide) ?_
                refine g_put (v := .int (nI 0)) (blk' := bMo Γ m (false, u_1.1.2.1, u_1.1.2.2.1, u_1.1.2.2.2.1, u_1.1.2.2.2.2.1, u_1.1.2.2.2.2.2.1, u_1.1.2.2.2.2.2.2)) (bs' := [bMo Γ m (false, u_1.1.2.1, u_1.1.2.2.1, u_1.1.2.2.2.1, u_1.1.2.2.2.2.1, u_1.1.2.2.2.2.2.1, u_1.1.2.2.2.2.2.2), bA Γ (m 1) 259 b1, bA Γ (m 6) 3 f, bA Γ (m 7) 150 g, bA Γ (m 8) 350 u_1.2, bA Γ (m 4) 259 a1]) XX hP hD hS 0 0 rfl rfl rfl iwX12 tyX12_ok nmX12 6 (by decide) fl_X12_45 rfl rfl rfl (Nat.le_of_ble_eq_true rfl) rfl rfl rfl dX12_read_73 (fun H locs hP hD hS => ?_)
                refine lv_iload_n zx zb dX12_read_76 rfl (lv_at hl 1 rfl) ?_
                refine lv_aload_n zx zb dX12_read_77 rfl (lv_at hl 0 rfl) ?_
                refine g_get (v := .int (nI (u_1.1.2.2.2.2.2.2))) XX hP 0 0 rfl rfl rfl iwX12 14 (by decide) fl_X12_147 rfl dX12_read_78 ?_
                refine lv_icmp_ne (tgt := 89) zx zb dX12_read_81 (by decide) (fun c_81 => ?_) (fun c_81 => ?_)
                · have c_81 : ¬ (i = u_1.1.2.2.2.2.2.2) := fun h => c_81 ((nI_eq (a := i) (b := u_1.1.2.2.2.2.2.2) (by omega) (by omega)).mpr h)
                  refine lv_iconst (v := nI 0) zx zb dX12_read_89 (by decide) ?_
                  refine lv_istore_n (lv' := [(2, .int (nI 0)), (0, .ref (m 0)), (1, .int (nI i))]) zx zb dX12_read_90 rfl hl (by decide) rfl (fun ls hl => ?_)
                  have L91 : ∀ (nn : Nat) (k0 : Nat) (b2 : Nat → Int32), (k0 ≤ 259) → (∀ k, k < k0 → b2 k = a1 k) → 259 - k0 < nn → ∀ (H : Heap) (locs : List Loc), bP Γ [bMo Γ m (false, u_1.1.2.1, u_1.1.2.2.1, u_1.1.2.2.2.1, u_1.1.2.2.2.2.1, u_1.1.2.2.2.2.2.1, u_1.1.2.2.2.2.2.2), bA Γ (m 1) 259 b2, bA Γ (m 6) 3 f, bA Γ (m 7) 150 g, bA Γ (m 8) 350 u_1.2, bA Γ (m 4) 259 a1] H → bD AA [bMo Γ m (false, u_1.1.2.1, u_1.1.2.2.1, u_1.1.2.2.2.1, u_1.1.2.2.2.2.1, u_1.1.2.2.2.2.2.1, u_1.1.2.2.2.2.2.2), bA Γ (m 1) 259 b2, bA Γ (m 6) 3 f, bA Γ (m 7) 150 g, bA Γ (m 8) 350 u_1.2, bA Γ (m 4) 259 a1] → va_S AA ss.heap H locs → ∀ (ls : Array Slot), lv_has ls 3 [(0, .ref (m 0)), (1, .int (nI i)), (2, .int (nI k0))] → W pp l ee { frames := 4, cells := 0, slots := 0, locals := 102 } ss mm [.ref (m 0)].toArray bb me cd H locs 0 0 QQ (F0 mm 91 ls []) := by
                    intro nn
                    induction nn with
                    | zero => intro k0 b2 hk0 hz2 hm; exact absurd hm (Nat.not_lt_zero _)
                    | succ nn ih91 =>
                      intro k0 b2 hk0 hz2 hm91 H locs hP hD hS ls hl
                      refine lv_iload_n zx zb dX12_read_91 rfl (lv_at hl 2 rfl) ?_
                      refine lv_sipush (v := nI 259) zx zb dX12_read_92 (by decide) ?_
                      refine lv_icmp_ge (tgt := 116) zx zb dX12_read_95 (by decide) (fun c_95 => ?_) (fun c_95 => ?_)
                      · have c_95 : 259 ≤ k0 := (nI_leI (a := 259) (b := k0) (by omega) (by omega)).mp c_95
                        refine lv_sipush (v := (-1000)) zx zb dX12_read_116 (by decide) ?_
                        refine lv_iload_n zx zb dX12_read_119 rfl (lv_at hl 1 rfl) ?_
                        refine lv_isub zx zb dX12_read_120 ?_
                        exact fin _ _ ((-1000) - (nI i)) ((false, u_1.1.2.1, u_1.1.2.2.1, u_1.1.2.2.2.1, u_1.1.2.2.2.2.1, u_1.1.2.2.2.2.2.1, u_1.1.2.2.2.2.2.2), b2, u_1.2, a1) 121 _ dX12_read_121 (fun h => by cases h) (⟨⟨rfl, hqt.2⟩, absurd (by omega) c_81⟩) hP hD hS
                      · have c_95 : ¬ (259 ≤ k0) := fun h => c_95 ((nI_leI (a := 259) (b := k0) (by omega) (by omega)).mpr h)
                        refine lv_aload_n zx zb dX12_read_98 rfl (lv_at hl 0 rfl) ?_
                        refine g_get (v := .ref (m 1)) XX hP 0 0 rfl rfl rfl iwX12 0 (by decide) fl_X12_7 rfl dX12_read_99 ?_
                        refine lv_iload_n zx zb dX12_read_102 rfl (lv_at hl 2 rfl) ?_
                        refine lv_aload_n zx zb dX12_read_103 rfl (lv_at hl 0 rfl) ?_
                        refine g_get (v := .ref (m 4)) XX hP 0 0 rfl rfl rfl iwX12 3 (by decide) fl_X12_20 rfl dX12_read_104 ?_
                        refine lv_iload_n zx zb dX12_read_107 rfl (lv_at hl 2 rfl) ?_
                        refine g_ialdN (i := k0) XX hP 5 0 rfl rfl (by omega) (by decide) dX12_read_108 ?_
                        refine g_iastN (x := a1 k0) (i := k0) (blk' := bA Γ (m 1) 259 (upd b2 k0 (a1 k0))) (bs' := [bMo Γ m (false, u_1.1.2.1, u_1.1.2.2.1, u_1.1.2.2.2.1, u_1.1.2.2.2.2.1, u_1.1.2.2.2.2.2.1, u_1.1.2.2.2.2.2.2), bA Γ (m 1) 259 (upd b2 k0 (a1 k0)), bA Γ (m 6) 3 f, bA Γ (m 7) 150 g, bA Γ (m 8) 350 u_1.2, bA Γ (m 4) 259 a1]) XX hP hD hS 1 0 rfl rfl (by omega) (by decide) rfl rfl dX12_read_109 (fun H locs hP hD hS => ?_)
                        refine lv_iinc (v := nI (k0 + 1)) (lv' := [(2, .int (nI (k0 + 1))), (0, .ref (m 0)), (1, .int (nI i))]) zx zb dX12_read_110 hl (k := 2) rfl (nI_inc _ 1) (by decide) rfl (fun ls hl => ?_)
                        refine lv_goto (tgt := 91) zx zb dX12_read_113 (by decide) ?_
                        exact ih91 (k0 + 1) (upd b2 k0 (a1 k0)) (by omega) (cpy_s hz2) (by omega) _ _ hP hD hS _ (lv_sub hl [1, 2, 0] rfl)
                  exact L91 _ 0 b1 (by omega) (lt_0) (Nat.lt_succ_self _) _ _ hP hD hS _ (lv_sub hl [1, 2, 0] rfl)
                · have c_81 : i = u_1.1.2.2.2.2.2.2 := (nI_eq (a := i) (b := u_1.1.2.2.2.2.2.2) (by omega) (by omega)).mp c_81
                  refine lv_aload_n zx zb dX12_read_84 rfl (lv_at hl 0 rfl) ?_
                  refine g_get (v := .int (nI (u_1.1.2.2.2.2.2.2))) XX hP 0 0 rfl rfl rfl iwX12 14 (by decide) fl_X12_147 rfl dX12_read_85 ?_
                  exact fin _ _ (nI (u_1.1.2.2.2.2.2.2)) ((false, u_1.1.2.1, u_1.1.2.2.1, u_1.1.2.2.2.1, u_1.1.2.2.2.2.1, u_1.1.2.2.2.2.2.1, u_1.1.2.2.2.2.2.2), b1, u_1.2, a1) 88 _ dX12_read_88 (fun h => by cases h) (⟨⟨rfl, hqt.2⟩, by have e9 : u_1.1.2.2.2.2.2.2 = i := (by omega); rw [e9]; exact mr_ok hE hk1 (by omega) hp hpo hr1⟩) hP hD hS
              · have c_54 : ¬ (u_1.1.2.2.2.2.2.2 ≤ i) := fun h => c_54 ((nI_leI (a := u_1.1.2.2.2.2.2.2) (b := i) (by omega) (by omega)).mpr h)
                have hii : i < S.2.2.1 := by omega
                refine lv_aload_n zx zb dX12_read_57 rfl (lv_at hl 0 rfl) ?_
                refine lv_iload_n zx zb dX12_read_58 rfl (lv_at hl 1 rfl) ?_
                refine call_Vi (As := [.int (nI i)]) (rest := []) XX cv_X12_181 (c_X12_tellsItem Γ l m (true, u_1.1.2.1, u_1.1.2.2.1, u_1.1.2.2.2.1, u_1.1.2.2.2.2.1, u_1.1.2.2.2.2.2.1, u_1.1.2.2.2.2.2.2) b1 ((tIs S (C, tr, Y) i).1) ((tIs S (C, tr, Y) i).2.1) ((tIs S (C, tr, Y) i).2.2) (pcI i pc) P f1 u_1.2 i (S.2.2.2.1 i) (S.2.2.2.2 i) (hr1) (ia_tIs hA0) (rfl) (by omega) (hpI.2.2 i hii) ((hiG i hii).1) ((hiG i hii).2)) hP hD hS hA [0, 1, 2, 4] (by decide) rfl (fun _ => rfl) 0 0 rfl rfl rfl rfl hl.1 rfl ⟨⟨by decide, by decide⟩, by decide, by decide⟩ (Nat.le_of_ble_eq_true rfl) dX12_read_59 (fun r_59 u H locs hw hP hD hS => ?_)
                obtain ⟨u_59, rfl⟩ : ∃ z, z = u := ⟨_, rfl⟩
                have w_59 := hw
                have hP : bP Γ [bMo Γ m (true, u_1.1.2.1, u_1.1.2.2.1, u_1.1.2.2.2.1, u_1.1.2.2.2.2.1, u_1.1.2.2.2.2.2.1, u_1.1.2.2.2.2.2.2), bA Γ (m 1) 259 u_59.1, bA Γ (m 6) 3 u_59.2, bA Γ (m 7) 150 g, bA Γ (m 8) 350 u_1.2, bA Γ (m 4) 259 a1] H := hP
                have hD : bD AA [bMo Γ m (true, u_1.1.2.1, u_1.1.2.2.1, u_1.1.2.2.2.1, u_1.1.2.2.2.2.1, u_1.1.2.2.2.2.2.1, u_1.1.2.2.2.2.2.2), bA Γ (m 1) 259 u_59.1, bA Γ (m 6) 3 u_59.2, bA Γ (m 7) 150 g, bA Γ (m 8) 350 u_1.2, bA Γ (m 4) 259 a1] := hD
                refine lv_if_eq (tgt := 71) zx zb dX12_read_62 (by decide) (fun c_62 => ?_) (fun c_62 => ?_)
                · have c_62 : r_59 = (0 : Int32) := c_62
                  rw [show u_59.2 = f from w_59.2.2.trans hf1] at hP hD
                  refine lv_aload_n zx zb dX12_read_71 rfl (lv_at hl 0 rfl) ?_
                  refine lv_iconst (v := nI 0) zx zb dX12_read_72 (by decide) ?_
                  refine g_put (v := .int (nI 0)) (blk' := bMo Γ m (false, u_1.1.2.1, u_1.1.2.2.1, u_1.1.2.2.2.1, u_1.1.2.2.2.2.1, u_1.1.2.2.2.2.2.1, u_1.1.2.2.2.2.2.2)) (bs' := [bMo Γ m (false, u_1.1.2.1, u_1.1.2.2.1, u_1.1.2.2.2.1, u_1.1.2.2.2.2.1, u_1.1.2.2.2.2.2.1, u_1.1.2.2.2.2.2.2), bA Γ (m 1) 259 u_59.1, bA Γ (m 6) 3 f, bA Γ (m 7) 150 g, bA Γ (m 8) 350 u_1.2, bA Γ (m 4) 259 a1]) XX hP hD hS 0 0 rfl rfl rfl iwX12 tyX12_ok nmX12 6 (by decide) fl_X12_45 rfl rfl rfl (Nat.le_of_ble_eq_true rfl) rfl rfl rfl dX12_read_73 (fun H locs hP hD hS => ?_)
                  refine lv_iload_n zx zb dX12_read_76 rfl (lv_at hl 1 rfl) ?_
                  refine lv_aload_n zx zb dX12_read_77 rfl (lv_at hl 0 rfl) ?_
                  refine g_get (v := .int (nI (u_1.1.2.2.2.2.2.2))) XX hP 0 0 rfl rfl rfl iwX12 14 (by decide) fl_X12_147 rfl dX12_read_78 ?_
                  refine lv_icmp_ne (tgt := 89) zx zb dX12_read_81 (by decide) (fun c_81 => ?_) (fun c_81 => ?_)
                  · have c_81 : ¬ (i = u_1.1.2.2.2.2.2.2) := fun h => c_81 ((nI_eq (a := i) (b := u_1.1.2.2.2.2.2.2) (by omega) (by omega)).mpr h)
                    refine lv_iconst (v := nI 0) zx zb dX12_read_89 (by decide) ?_
                    refine lv_istore_n (lv' := [(2, .int (nI 0)), (0, .ref (m 0)), (1, .int (nI i))]) zx zb dX12_read_90 rfl hl (by decide) rfl (fun ls hl => ?_)
                    have L91 : ∀ (nn : Nat) (k0 : Nat) (b2 : Nat → Int32), (k0 ≤ 259) → (∀ k, k < k0 → b2 k = a1 k) → 259 - k0 < nn → ∀ (H : Heap) (locs : List Loc), bP Γ [bMo Γ m (false, u_1.1.2.1, u_1.1.2.2.1, u_1.1.2.2.2.1, u_1.1.2.2.2.2.1, u_1.1.2.2.2.2.2.1, u_1.1.2.2.2.2.2.2), bA Γ (m 1) 259 b2, bA Γ (m 6) 3 f, bA Γ (m 7) 150 g, bA Γ (m 8) 350 u_1.2, bA Γ (m 4) 259 a1] H → bD AA [bMo Γ m (false, u_1.1.2.1, u_1.1.2.2.1, u_1.1.2.2.2.1, u_1.1.2.2.2.2.1, u_1.1.2.2.2.2.2.1, u_1.1.2.2.2.2.2.2), bA Γ (m 1) 259 b2, bA Γ (m 6) 3 f, bA Γ (m 7) 150 g, bA Γ (m 8) 350 u_1.2, bA Γ (m 4) 259 a1] → va_S AA ss.heap H locs → ∀ (ls : Array Slot), lv_has ls 3 [(0, .ref (m 0)), (1, .int (nI i)), (2, .int (nI k0))] → W pp l ee { frames := 4, cells := 0, slots := 0, locals := 102 } ss mm [.ref (m 0)].toArray bb me cd H locs 0 0 QQ (F0 mm 91 ls []) := by
                      intro nn
                      induction nn with
                      | zero => intro k0 b2 hk0 hz2 hm; exact absurd hm (Nat.not_lt_zero _)
                      | succ nn ih91 =>
                        intro k0 b2 hk0 hz2 hm91 H locs hP hD hS ls hl
                        refine lv_iload_n zx zb dX12_read_91 rfl (lv_at hl 2 rfl) ?_
                        refine lv_sipush (v := nI 259) zx zb dX12_read_92 (by decide) ?_
                        refine lv_icmp_ge (tgt := 116) zx zb dX12_read_95 (by decide) (fun c_95 => ?_) (fun c_95 => ?_)
                        · have c_95 : 259 ≤ k0 := (nI_leI (a := 259) (b := k0) (by omega) (by omega)).mp c_95
                          refine lv_sipush (v := (-1000)) zx zb dX12_read_116 (by decide) ?_
                          refine lv_iload_n zx zb dX12_read_119 rfl (lv_at hl 1 rfl) ?_
                          refine lv_isub zx zb dX12_read_120 ?_
                          exact fin _ _ ((-1000) - (nI i)) ((false, u_1.1.2.1, u_1.1.2.2.1, u_1.1.2.2.2.1, u_1.1.2.2.2.2.1, u_1.1.2.2.2.2.2.1, u_1.1.2.2.2.2.2.2), b2, u_1.2, a1) 121 _ dX12_read_121 (fun h => by cases h) (⟨⟨rfl, hqt.2⟩, mr_no hE hk1 hii hp (decide_eq_true (pc_r w_59 c_62)) (Rel_cpy (fun k hk => (hz2 k (by omega)).trans (hz k (by omega))) hr htc hdc hpc)⟩) hP hD hS
                        · have c_95 : ¬ (259 ≤ k0) := fun h => c_95 ((nI_leI (a := 259) (b := k0) (by omega) (by omega)).mpr h)
                          refine lv_aload_n zx zb dX12_read_98 rfl (lv_at hl 0 rfl) ?_
                          refine g_get (v := .ref (m 1)) XX hP 0 0 rfl rfl rfl iwX12 0 (by decide) fl_X12_7 rfl dX12_read_99 ?_
                          refine lv_iload_n zx zb dX12_read_102 rfl (lv_at hl 2 rfl) ?_
                          refine lv_aload_n zx zb dX12_read_103 rfl (lv_at hl 0 rfl) ?_
                          refine g_get (v := .ref (m 4)) XX hP 0 0 rfl rfl rfl iwX12 3 (by decide) fl_X12_20 rfl dX12_read_104 ?_
                          refine lv_iload_n zx zb dX12_read_107 rfl (lv_at hl 2 rfl) ?_
                          refine g_ialdN (i := k0) XX hP 5 0 rfl rfl (by omega) (by decide) dX12_read_108 ?_
                          refine g_iastN (x := a1 k0) (i := k0) (blk' := bA Γ (m 1) 259 (upd b2 k0 (a1 k0))) (bs' := [bMo Γ m (false, u_1.1.2.1, u_1.1.2.2.1, u_1.1.2.2.2.1, u_1.1.2.2.2.2.1, u_1.1.2.2.2.2.2.1, u_1.1.2.2.2.2.2.2), bA Γ (m 1) 259 (upd b2 k0 (a1 k0)), bA Γ (m 6) 3 f, bA Γ (m 7) 150 g, bA Γ (m 8) 350 u_1.2, bA Γ (m 4) 259 a1]) XX hP hD hS 1 0 rfl rfl (by omega) (by decide) rfl rfl dX12_read_109 (fun H locs hP hD hS => ?_)
                          refine lv_iinc (v := nI (k0 + 1)) (lv' := [(2, .int (nI (k0 + 1))), (0, .ref (m 0)), (1, .int (nI i))]) zx zb dX12_read_110 hl (k := 2) rfl (nI_inc _ 1) (by decide) rfl (fun ls hl => ?_)
                          refine lv_goto (tgt := 91) zx zb dX12_read_113 (by decide) ?_
                          exact ih91 (k0 + 1) (upd b2 k0 (a1 k0)) (by omega) (cpy_s hz2) (by omega) _ _ hP hD hS _ (lv_sub hl [1, 2, 0] rfl)
                    exact L91 _ 0 u_59.1 (by omega) (lt_0) (Nat.lt_succ_self _) _ _ hP hD hS _ (lv_sub hl [1, 2, 0] rfl)
                  · have c_81 : i = u_1.1.2.2.2.2.2.2 := (nI_eq (a := i) (b := u_1.1.2.2.2.2.2.2) (by omega) (by omega)).mp c_81
                    refine lv_aload_n zx zb dX12_read_84 rfl (lv_at hl 0 rfl) ?_
                    refine g_get (v := .int (nI (u_1.1.2.2.2.2.2.2))) XX hP 0 0 rfl rfl rfl iwX12 14 (by decide) fl_X12_147 rfl dX12_read_85 ?_
                    exact fin _ _ (nI (u_1.1.2.2.2.2.2.2)) ((false, u_1.1.2.1, u_1.1.2.2.1, u_1.1.2.2.2.1, u_1.1.2.2.2.2.1, u_1.1.2.2.2.2.2.1, u_1.1.2.2.2.2.2.2), u_59.1, u_1.2, a1) 88 _ dX12_read_88 (fun h => by cases h) (⟨⟨rfl, hqt.2⟩, absurd c_81 (by omega)⟩) hP hD hS
                · have c_62 : ¬ (r_59 = (0 : Int32)) := c_62
                  obtain ⟨sg1, sg2, sg3⟩ := pc_s (pc := pc) (i := i) w_59 c_62
                  refine lv_iinc (v := nI (i + 1)) (lv' := [(1, .int (nI (i + 1))), (0, .ref (m 0))]) zx zb dX12_read_65 hl (k := 1) rfl (nI_inc _ 1) (by decide) rfl (fun ls hl => ?_)
                  refine lv_goto (tgt := 49) zx zb dX12_read_68 (by decide) ?_
                  exact ih49 (i + 1) u_59.1 u_59.2 (by omega) (sg2.trans hf1) (lt_s hp (decide_eq_false sg1)) (sg3) (by omega) _ _ hP hD hS _ (lv_sub hl [1, 0] rfl)
          exact L49 _ 0 b f (by omega) (rfl) (lt_0) (hr) (Nat.lt_succ_self _) _ _ hP hD hS _ (lv_sub hl [1, 0] rfl)
        · have c_21 : ¬ (259 ≤ i0) := fun h => c_21 ((nI_leI (a := 259) (b := i0) (by omega) (by omega)).mpr h)
          refine lv_aload_n zx zb dX12_read_24 rfl (lv_at hl 0 rfl) ?_
          refine g_get (v := .ref (m 4)) XX hP 0 0 rfl rfl rfl iwX12 3 (by decide) fl_X12_20 rfl dX12_read_25 ?_
          refine lv_iload_n zx zb dX12_read_28 rfl (lv_at hl 1 rfl) ?_
          refine lv_aload_n zx zb dX12_read_29 rfl (lv_at hl 0 rfl) ?_
          refine g_get (v := .ref (m 1)) XX hP 0 0 rfl rfl rfl iwX12 0 (by decide) fl_X12_7 rfl dX12_read_30 ?_
          refine lv_iload_n zx zb dX12_read_33 rfl (lv_at hl 1 rfl) ?_
          refine g_ialdN (i := i0) XX hP 1 0 rfl rfl (by omega) (by decide) dX12_read_34 ?_
          refine g_iastN (x := b i0) (i := i0) (blk' := bA Γ (m 4) 259 (upd a1 i0 (b i0))) (bs' := [bMo Γ m u_1.1, bA Γ (m 1) 259 b, bA Γ (m 6) 3 f, bA Γ (m 7) 150 g, bA Γ (m 8) 350 u_1.2, bA Γ (m 4) 259 (upd a1 i0 (b i0))]) XX hP hD hS 5 0 rfl rfl (by omega) (by decide) rfl rfl dX12_read_35 (fun H locs hP hD hS => ?_)
          refine lv_iinc (v := nI (i0 + 1)) (lv' := [(1, .int (nI (i0 + 1))), (0, .ref (m 0))]) zx zb dX12_read_36 hl (k := 1) rfl (nI_inc _ 1) (by decide) rfl (fun ls hl => ?_)
          refine lv_goto (tgt := 17) zx zb dX12_read_39 (by decide) ?_
          exact ih17 (i0 + 1) (upd a1 i0 (b i0)) (by omega) (cpy_s hz) (by omega) _ _ hP hD hS _ (lv_sub hl [1, 0] rfl)
    exact L17 _ 0 as (by omega) (lt_0) (Nat.lt_succ_self _) _ _ hP hD hS _ (lv_sub hl [1, 0] rfl)
  · have c_4 : r_1 = (0 : Int32) := c_4
    obtain ⟨S, hE, er, hst, hqt, hit⟩ := w_1
    have hk0 : pOk g M.2.1 S = false := bI_0.mp (er.symm.trans c_4)
    refine lv_bipush (v := (-10)) zx zb dX12_read_7 (by decide) ?_
    refine lv_aload_n zx zb dX12_read_9 rfl (lv_at hl 0 rfl) ?_
    refine g_get (v := .int (nI (u_1.1.2.2.2.1))) XX hP 0 0 rfl rfl rfl iwX12 10 (by decide) fl_X12_130 rfl dX12_read_10 ?_
    refine lv_isub zx zb dX12_read_13 ?_
    exact fin _ _ ((-10) - (nI (u_1.1.2.2.2.1))) (u_1.1, b, u_1.2, as) 14 _ dX12_read_14 (fun h => by cases h) (⟨⟨hqt.1.trans hq, hqt.2⟩, by rw [hst]; exact mr_f (X := (C, tr, Y)) hE hk0 hr⟩) hP hD hS
