theorem cv_X12_212 : CWV RX12 212 RX12 yX12_remembers cX12_remembers 3 none 0 := ⟨cd_X12_remembers, im_X12_remembers, se_X12_X12_remembers_X12_remembers, in_X12, ml_X12_212, by decide +kernel⟩
set_option maxHeartbeats 4000000 in
set_option maxRecDepth 100000 in
theorem c_X12_remembers (Γ : GG) (l : Launch) (m : Nat → Nat) (M : MoV) (b : Nat → Int32) (C : CoV) (tr : Nat → TrV) (Y : YrV) (pc : Nat) (P : Nat → YrV) (hr : Rel b C tr Y pc P) (hI : Inv C tr Y) (hpc : pc ≤ 6) : Cv Γ l yX12_remembers cX12_remembers 3 none 1 21 0 0 [.ref (m 0)] [bMo Γ m M, bA Γ (m 1) 259 b] (fun (u : Nat → Int32) => Rel u C tr Y (pastPush Y pc P).1 (pastPush Y pc P).2) (fun (u : Nat → Int32) => [bMo Γ m M, bA Γ (m 1) 259 u]) := by
  refine Cv.of rfl (by decide) (Nat.le_of_ble_eq_true rfl) ?_
  intro pp ee ss mm bb me cd AA QQ XX hnm hA hP hD fin ls hl
  obtain ⟨zx, zb, hml, hown, hts, hK⟩ := id XX
  have hS : va_S AA ss.heap ss.heap [] := va_S.rf
  have hl : lv_has ls 3 [(0, .ref (m 0))] := hl
  have htc := inv_tc hI
  have hdc := inv_dc hI
  have hn := inv_n hI
  refine lv_aload_n zx zb dX12_remembers_0 rfl (lv_at hl 0 rfl) ?_
  refine g_get (v := .ref (m 1)) XX hP 0 0 rfl rfl rfl iwX12 0 (by decide) fl_X12_7 rfl dX12_remembers_1 ?_
  refine lv_bipush (v := nI 6) zx zb dX12_remembers_4 (by decide) ?_
  refine g_ialdN (i := 6) XX hP 1 0 rfl rfl (by omega) (by decide) dX12_remembers_6 ?_
  refine g_top (y := nI pc) (Rel.np hr) ?_
  refine lv_bipush (v := nI 6) zx zb dX12_remembers_7 (by decide) ?_
  refine lv_icmp_ne (tgt := 58) zx zb dX12_remembers_9 (by decide) (fun c_9 => ?_) (fun c_9 => ?_)
  · have c_9 : ¬ (pc = 6) := fun h => c_9 ((nI_eq (a := pc) (b := 6) (by omega) (by omega)).mpr h)
    refine lv_bipush (v := nI 115) zx zb dX12_remembers_58 (by decide) ?_
    refine lv_bipush (v := nI 24) zx zb dX12_remembers_60 (by decide) ?_
    refine lv_aload_n zx zb dX12_remembers_62 rfl (lv_at hl 0 rfl) ?_
    refine g_get (v := .ref (m 1)) XX hP 0 0 rfl rfl rfl iwX12 0 (by decide) fl_X12_7 rfl dX12_remembers_63 ?_
    refine lv_bipush (v := nI 6) zx zb dX12_remembers_66 (by decide) ?_
    refine g_ialdN (i := 6) XX hP 1 0 rfl rfl (by omega) (by decide) dX12_remembers_68 ?_
    refine g_top (y := nI pc) (hr.np) ?_
    refine lv_imul zx zb dX12_remembers_69 ?_
    refine g_top (y := nI (24 * pc)) (pk_mul 24 pc) ?_
    refine lv_iadd zx zb dX12_remembers_70 ?_
    refine g_top (y := nI (115 + (24 * pc))) (nI_add 115 (24 * pc)) ?_
    refine lv_istore_n (lv' := [(1, .int (nI (115 + (24 * pc)))), (0, .ref (m 0))]) zx zb dX12_remembers_71 rfl hl (by decide) rfl (fun ls hl => ?_)
    refine lv_aload_n zx zb dX12_remembers_72 rfl (lv_at hl 1 rfl) ?_
    refine g_get (v := .ref (m 1)) XX hP 0 0 rfl rfl rfl iwX12 0 (by decide) fl_X12_7 rfl dX12_remembers_73 ?_
    refine lv_iload_n zx zb dX12_remembers_76 rfl (lv_at hl 0 rfl) ?_
    refine lv_aload_n zx zb dX12_remembers_77 rfl (lv_at hl 1 rfl) ?_
    refine g_get (v := .ref (m 1)) XX hP 0 0 rfl rfl rfl iwX12 0 (by decide) fl_X12_7 rfl dX12_remembers_78 ?_
    refine lv_iconst (v := nI 1) zx zb dX12_remembers_81 (by decide) ?_
    refine g_ialdN (i := 1) XX hP 1 0 rfl rfl (by omega) (by decide) dX12_remembers_82 ?_
    refine g_top (y := Y.1) (Rel.y hr) ?_
    refine g_iastN (x := Y.1) (i := 115 + (24 * pc)) (blk' := bA Γ (m 1) 259 (upd b (115 + (24 * pc)) Y.1)) (bs' := [bMo Γ m M, bA Γ (m 1) 259 (upd b (115 + (24 * pc)) Y.1)]) XX hP hD hS 1 0 rfl rfl (by omega) (by decide) rfl rfl dX12_remembers_83 (fun H locs hP hD hS => ?_)
    refine lv_aload_n zx zb dX12_remembers_84 rfl (lv_at hl 1 rfl) ?_
    refine g_get (v := .ref (m 1)) XX hP 0 0 rfl rfl rfl iwX12 0 (by decide) fl_X12_7 rfl dX12_remembers_85 ?_
    refine lv_iload_n zx zb dX12_remembers_88 rfl (lv_at hl 0 rfl) ?_
    refine lv_iconst (v := nI 1) zx zb dX12_remembers_89 (by decide) ?_
    refine lv_iadd zx zb dX12_remembers_90 ?_
    refine g_top (y := nI (115 + (24 * pc) + 1)) (nI_add (115 + (24 * pc)) 1) ?_
    refine lv_aload_n zx zb dX12_remembers_91 rfl (lv_at hl 1 rfl) ?_
    refine g_get (v := .ref (m 1)) XX hP 0 0 rfl rfl rfl iwX12 0 (by decide) fl_X12_7 rfl dX12_remembers_92 ?_
    refine lv_iconst (v := nI 2) zx zb dX12_remembers_95 (by decide) ?_
    refine g_ialdN (i := 2) XX hP 1 0 rfl rfl (by omega) (by decide) dX12_remembers_96 ?_
    refine g_top (y := Y.2.1) (by rw [pk_un (by omega)]; exact hr.be) ?_
    refine g_iastN (x := Y.2.1) (i := 115 + (24 * pc) + 1) (blk' := bA Γ (m 1) 259 (upd (upd b (115 + (24 * pc)) Y.1) (115 + (24 * pc) + 1) Y.2.1)) (bs' := [bMo Γ m M, bA Γ (m 1) 259 (upd (upd b (115 + (24 * pc)) Y.1) (115 + (24 * pc) + 1) Y.2.1)]) XX hP hD hS 1 0 rfl rfl (by omega) (by decide) rfl rfl dX12_remembers_97 (fun H locs hP hD hS => ?_)
    refine lv_iconst (v := nI 0) zx zb dX12_remembers_98 (by decide) ?_
    refine lv_istore_n (lv' := [(2, .int (nI 0)), (1, .int (nI (115 + (24 * pc)))), (0, .ref (m 0))]) zx zb dX12_remembers_99 rfl hl (by decide) rfl (fun ls hl => ?_)
    have L100 : ∀ (nn : Nat) (x1 : Nat) (b3 : Nat → Int32), (x1 ≤ 8) → (RemG C tr Y pc P b3 x1 0) → 8 - x1 < nn → ∀ (H : Heap) (locs : List Loc), bP Γ [bMo Γ m M, bA Γ (m 1) 259 b3] H → bD AA [bMo Γ m M, bA Γ (m 1) 259 b3] → va_S AA ss.heap H locs → ∀ (ls : Array Slot), lv_has ls 3 [(0, .ref (m 0)), (1, .int (nI (115 + (24 * pc)))), (2, .int (nI x1))] → W pp l ee { frames := 1, cells := 0, slots := 0, locals := 21 } ss mm [.ref (m 0)].toArray bb me cd H locs 0 0 QQ (F0 mm 100 ls []) := by
      intro nn
      induction nn with
      | zero => intro x1 b3 hx hg hm; exact absurd hm (Nat.not_lt_zero _)
      | succ nn ih100 =>
        intro x1 b3 hx hg hm100 H locs hP hD hS ls hl
        refine lv_iload_n zx zb dX12_remembers_100 rfl (lv_at hl 2 rfl) ?_
        refine lv_bipush (v := nI 8) zx zb dX12_remembers_101 (by decide) ?_
        refine lv_icmp_ge (tgt := 153) zx zb dX12_remembers_103 (by decide) (fun c_103 => ?_) (fun c_103 => ?_)
        · have c_103 : 8 ≤ x1 := (nI_leI (a := 8) (b := x1) (by omega) (by omega)).mp c_103
          refine lv_iconst (v := nI 0) zx zb dX12_remembers_153 (by decide) ?_
          refine lv_istore_n (lv' := [(2, .int (nI 0)), (0, .ref (m 0)), (1, .int (nI (115 + (24 * pc))))]) zx zb dX12_remembers_154 rfl hl (by decide) rfl (fun ls hl => ?_)
          have L155 : ∀ (nn : Nat) (t : Nat) (b4 : Nat → Int32), (t ≤ 6) → (RemG C tr Y pc P b4 8 t) → 6 - t < nn → ∀ (H : Heap) (locs : List Loc), bP Γ [bMo Γ m M, bA Γ (m 1) 259 b4] H → bD AA [bMo Γ m M, bA Γ (m 1) 259 b4] → va_S AA ss.heap H locs → ∀ (ls : Array Slot), lv_has ls 3 [(0, .ref (m 0)), (1, .int (nI (115 + (24 * pc)))), (2, .int (nI t))] → W pp l ee { frames := 1, cells := 0, slots := 0, locals := 21 } ss mm [.ref (m 0)].toArray bb me cd H locs 0 0 QQ (F0 mm 155 ls []) := by
            intro nn
            induction nn with
            | zero => intro t b4 ht hg hm; exact absurd hm (Nat.not_lt_zero _)
            | succ nn ih155 =>
              intro t b4 ht hg hm155 H locs hP hD hS ls hl
              refine lv_iload_n zx zb dX12_remembers_155 rfl (lv_at hl 2 rfl) ?_
              refine lv_bipush (v := nI 6) zx zb dX12_remembers_156 (by decide) ?_
              refine lv_icmp_ge (tgt := 189) zx zb dX12_remembers_158 (by decide) (fun c_158 => ?_) (fun c_158 => ?_)
              · have c_158 : 6 ≤ t := (nI_leI (a := 6) (b := t) (by omega) (by omega)).mp c_158
                refine lv_aload_n zx zb dX12_remembers_189 rfl (lv_at hl 0 rfl) ?_
                refine g_get (v := .ref (m 1)) XX hP 0 0 rfl rfl rfl iwX12 0 (by decide) fl_X12_7 rfl dX12_remembers_190 ?_
                refine lv_bipush (v := nI 6) zx zb dX12_remembers_193 (by decide) ?_
                refine lv_dup2_11 zx zb dX12_remembers_195 rfl rfl ?_
                refine g_ialdN (i := 6) XX hP 1 0 rfl rfl (by omega) (by decide) dX12_remembers_196 ?_
                refine g_top (y := nI pc) (rem_6 hg) ?_
                refine lv_iconst (v := nI 1) zx zb dX12_remembers_197 (by decide) ?_
                refine lv_iadd zx zb dX12_remembers_198 ?_
                refine g_top (y := nI (pc + 1)) (nI_add pc 1) ?_
                refine g_iastN (x := nI (pc + 1)) (i := 6) (blk' := bA Γ (m 1) 259 (upd b4 6 (nI (pc + 1)))) (bs' := [bMo Γ m M, bA Γ (m 1) 259 (upd b4 6 (nI (pc + 1)))]) XX hP hD hS 1 0 rfl rfl (by omega) (by decide) rfl rfl dX12_remembers_199 (fun H locs hP hD hS => ?_)
                exact fin _ _ (upd b4 6 (nI (pc + 1))) 200 _ dX12_remembers_200 (rem_a (by have e : t = 6 := (by omega); subst e; exact hg) (by omega) htc hdc) hP hD hS
              · have c_158 : ¬ (6 ≤ t) := fun h => c_158 ((nI_leI (a := 6) (b := t) (by omega) (by omega)).mpr h)
                refine lv_aload_n zx zb dX12_remembers_161 rfl (lv_at hl 0 rfl) ?_
                refine g_get (v := .ref (m 1)) XX hP 0 0 rfl rfl rfl iwX12 0 (by decide) fl_X12_7 rfl dX12_remembers_162 ?_
                refine lv_iload_n zx zb dX12_remembers_165 rfl (lv_at hl 1 rfl) ?_
                refine lv_bipush (v := nI 18) zx zb dX12_remembers_166 (by decide) ?_
                refine lv_iadd zx zb dX12_remembers_168 ?_
                refine g_top (y := nI (115 + (24 * pc) + 18)) (nI_add (115 + (24 * pc)) 18) ?_
                refine lv_iload_n zx zb dX12_remembers_169 rfl (lv_at hl 2 rfl) ?_
                refine lv_iadd zx zb dX12_remembers_170 ?_
                refine g_top (y := nI (115 + (24 * pc) + 18 + t)) (nI_add (115 + (24 * pc) + 18) t) ?_
                refine lv_aload_n zx zb dX12_remembers_171 rfl (lv_at hl 0 rfl) ?_
                refine g_get (v := .ref (m 1)) XX hP 0 0 rfl rfl rfl iwX12 0 (by decide) fl_X12_7 rfl dX12_remembers_172 ?_
                refine lv_iload_n zx zb dX12_remembers_175 rfl (lv_at hl 2 rfl) ?_
                refine lv_bipush (v := nI 6) zx zb dX12_remembers_176 (by decide) ?_
                refine callR_Si (As := [.int (nI t), .int (nI 6)]) (rest := [.ref (m 1), .int (nI (115 + (24 * pc) + 18 + t)), .ref (m 1)]) XX cs_X12_96 (c_X12_of0 Γ l t 6 ) hP hD hS hA nil_mem nil_D rfl hl.1 rfl ⟨⟨by decide, by decide⟩, by decide, by decide⟩ (Nat.le_of_ble_eq_true rfl) dX12_remembers_178 (fun r_178 H locs hw hP hS => ?_)
                have hw := hw.symm
                subst hw
                refine g_ialdN (i := 55 + 7 * t + 6) XX hP 1 0 rfl rfl (by omega) (by decide) dX12_remembers_181 ?_
                refine g_iastN (x := b4 (55 + 7 * t + 6)) (i := 115 + (24 * pc) + 18 + t) (blk' := bA Γ (m 1) 259 (upd b4 (115 + (24 * pc) + 18 + t) (b4 (55 + 7 * t + 6)))) (bs' := [bMo Γ m M, bA Γ (m 1) 259 (upd b4 (115 + (24 * pc) + 18 + t) (b4 (55 + 7 * t + 6)))]) XX hP hD hS 1 0 rfl rfl (by omega) (by decide) rfl rfl dX12_remembers_182 (fun H locs hP hD hS => ?_)
                refine lv_iinc (v := nI (t + 1)) (lv' := [(2, .int (nI (t + 1))), (0, .ref (m 0)), (1, .int (nI (115 + (24 * pc))))]) zx zb dX12_remembers_183 hl (k := 2) rfl (nI_inc _ 1) (by decide) rfl (fun ls hl => ?_)
                refine lv_goto (tgt := 155) zx zb dX12_remembers_186 (by decide) ?_
                exact ih155 (t + 1) (upd b4 (115 + (24 * pc) + 18 + t) (b4 (55 + 7 * t + 6))) (by omega) (rem_t hg (by omega)) (by omega) _ _ hP hD hS _ (lv_sub hl [1, 2, 0] rfl)
          exact L155 _ 0 b3 (by omega) (by have e : x1 = 8 := (by omega); subst e; exact hg) (Nat.lt_succ_self _) _ _ hP hD hS _ (lv_sub hl [1, 2, 0] rfl)
        · have c_103 : ¬ (8 ≤ x1) := fun h => c_103 ((nI_leI (a := 8) (b := x1) (by omega) (by omega)).mpr h)
          refine lv_aload_n zx zb dX12_remembers_106 rfl (lv_at hl 0 rfl) ?_
          refine g_get (v := .ref (m 1)) XX hP 0 0 rfl rfl rfl iwX12 0 (by decide) fl_X12_7 rfl dX12_remembers_107 ?_
          refine lv_iload_n zx zb dX12_remembers_110 rfl (lv_at hl 1 rfl) ?_
          refine lv_iconst (v := nI 2) zx zb dX12_remembers_111 (by decide) ?_
          refine lv_iadd zx zb dX12_remembers_112 ?_
          refine g_top (y := nI (115 + (24 * pc) + 2)) (nI_add (115 + (24 * pc)) 2) ?_
          refine lv_iload_n zx zb dX12_remembers_113 rfl (lv_at hl 2 rfl) ?_
          refine lv_iadd zx zb dX12_remembers_114 ?_
          refine g_top (y := nI (115 + (24 * pc) + 2 + x1)) (nI_add (115 + (24 * pc) + 2) x1) ?_
          refine lv_aload_n zx zb dX12_remembers_115 rfl (lv_at hl 0 rfl) ?_
          refine g_get (v := .ref (m 1)) XX hP 0 0 rfl rfl rfl iwX12 0 (by decide) fl_X12_7 rfl dX12_remembers_116 ?_
          refine lv_iload_n zx zb dX12_remembers_119 rfl (lv_at hl 2 rfl) ?_
          refine lv_iconst (v := nI 3) zx zb dX12_remembers_120 (by decide) ?_
          refine callR_Si (As := [.int (nI x1), .int (nI 3)]) (rest := [.ref (m 1), .int (nI (115 + (24 * pc) + 2 + x1)), .ref (m 1)]) XX cs_X12_73 (c_X12_at Γ l x1 3 ) hP hD hS hA nil_mem nil_D rfl hl.1 rfl ⟨⟨by decide, by decide⟩, by decide, by decide⟩ (Nat.le_of_ble_eq_true rfl) dX12_remembers_121 (fun r_121 H locs hw hP hS => ?_)
          have hw := hw.symm
          subst hw
          refine g_ialdN (i := 15 + 5 * x1 + 3) XX hP 1 0 rfl rfl (by omega) (by decide) dX12_remembers_124 ?_
          refine g_top (y := Y.2.2.2.1 x1) (rem_d hg (by omega)) ?_
          refine g_iastN (x := Y.2.2.2.1 x1) (i := 115 + (24 * pc) + 2 + x1) (blk' := bA Γ (m 1) 259 (upd b3 (115 + (24 * pc) + 2 + x1) (Y.2.2.2.1 x1))) (bs' := [bMo Γ m M, bA Γ (m 1) 259 (upd b3 (115 + (24 * pc) + 2 + x1) (Y.2.2.2.1 x1))]) XX hP hD hS 1 0 rfl rfl (by omega) (by decide) rfl rfl dX12_remembers_125 (fun H locs hP hD hS => ?_)
          refine lv_aload_n zx zb dX12_remembers_126 rfl (lv_at hl 0 rfl) ?_
          refine g_get (v := .ref (m 1)) XX hP 0 0 rfl rfl rfl iwX12 0 (by decide) fl_X12_7 rfl dX12_remembers_127 ?_
          refine lv_iload_n zx zb dX12_remembers_130 rfl (lv_at hl 1 rfl) ?_
          refine lv_bipush (v := nI 10) zx zb dX12_remembers_131 (by decide) ?_
          refine lv_iadd zx zb dX12_remembers_133 ?_
          refine g_top (y := nI (115 + (24 * pc) + 10)) (nI_add (115 + (24 * pc)) 10) ?_
          refine lv_iload_n zx zb dX12_remembers_134 rfl (lv_at hl 2 rfl) ?_
          refine lv_iadd zx zb dX12_remembers_135 ?_
          refine g_top (y := nI (115 + (24 * pc) + 10 + x1)) (nI_add (115 + (24 * pc) + 10) x1) ?_
          refine lv_aload_n zx zb dX12_remembers_136 rfl (lv_at hl 0 rfl) ?_
          refine g_get (v := .ref (m 1)) XX hP 0 0 rfl rfl rfl iwX12 0 (by decide) fl_X12_7 rfl dX12_remembers_137 ?_
          refine lv_iload_n zx zb dX12_remembers_140 rfl (lv_at hl 2 rfl) ?_
          refine lv_iconst (v := nI 4) zx zb dX12_remembers_141 (by decide) ?_
          refine callR_Si (As := [.int (nI x1), .int (nI 4)]) (rest := [.ref (m 1), .int (nI (115 + (24 * pc) + 10 + x1)), .ref (m 1)]) XX cs_X12_73 (c_X12_at Γ l x1 4 ) hP hD hS hA nil_mem nil_D rfl hl.1 rfl ⟨⟨by decide, by decide⟩, by decide, by decide⟩ (Nat.le_of_ble_eq_true rfl) dX12_remembers_142 (fun r_142 H locs hw hP hS => ?_)
          have hw := hw.symm
          subst hw
          refine g_ialdN (i := 15 + 5 * x1 + 4) XX hP 1 0 rfl rfl (by omega) (by decide) dX12_remembers_145 ?_
          refine g_top (y := Y.2.2.2.2 x1) (by rw [pk_un (by omega)]; exact rem_f hg (by omega)) ?_
          refine g_iastN (x := Y.2.2.2.2 x1) (i := 115 + (24 * pc) + 10 + x1) (blk' := bA Γ (m 1) 259 (upd (upd b3 (115 + (24 * pc) + 2 + x1) (Y.2.2.2.1 x1)) (115 + (24 * pc) + 10 + x1) (Y.2.2.2.2 x1))) (bs' := [bMo Γ m M, bA Γ (m 1) 259 (upd (upd b3 (115 + (24 * pc) + 2 + x1) (Y.2.2.2.1 x1)) (115 + (24 * pc) + 10 + x1) (Y.2.2.2.2 x1))]) XX hP hD hS 1 0 rfl rfl (by omega) (by decide) rfl rfl dX12_remembers_146 (fun H locs hP hD hS => ?_)
          refine lv_iinc (v := nI (x1 + 1)) (lv' := [(2, .int (nI (x1 + 1))), (0, .ref (m 0)), (1, .int (nI (115 + (24 * pc))))]) zx zb dX12_remembers_147 hl (k := 2) rfl (nI_inc _ 1) (by decide) rfl (fun ls hl => ?_)
          refine lv_goto (tgt := 100) zx zb dX12_remembers_150 (by decide) ?_
          exact ih100 (x1 + 1) (upd (upd b3 (115 + (24 * pc) + 2 + x1) (Y.2.2.2.1 x1)) (115 + (24 * pc) + 10 + x1) (Y.2.2.2.2 x1)) (by omega) (rem_x hg (by omega)) (by omega) _ _ hP hD hS _ (lv_sub hl [1, 2, 0] rfl)
    exact L100 _ 0 (upd (upd b (115 + (24 * pc)) Y.1) (115 + (24 * pc) + 1) Y.2.1) (by omega) (rem_0 hr) (Nat.lt_succ_self _) _ _ hP hD hS _ (lv_sub hl [2, 1, 0] rfl)
  · have c_9 : pc = 6 := (nI_eq (a := pc) (b := 6) (by omega) (by omega)).mp c_9
    refine lv_iconst (v := nI 0) zx zb dX12_remembers_12 (by decide) ?_
    refine lv_istore_n (lv' := [(1, .int (nI 0)), (0, .ref (m 0))]) zx zb dX12_remembers_13 rfl hl (by decide) rfl (fun ls hl => ?_)
    have L14 : ∀ (nn : Nat) (i : Nat) (b1 : Nat → Int32), (i ≤ 120) → (∀ k, k < i → b1 (115 + k) = b (115 + k + 24)) → (∀ k, ¬ (115 ≤ k ∧ k < 115 + i) → b1 k = b k) → 120 - i < nn → ∀ (H : Heap) (locs : List Loc), bP Γ [bMo Γ m M, bA Γ (m 1) 259 b1] H → bD AA [bMo Γ m M, bA Γ (m 1) 259 b1] → va_S AA ss.heap H locs → ∀ (ls : Array Slot), lv_has ls 3 [(0, .ref (m 0)), (1, .int (nI i))] → W pp l ee { frames := 1, cells := 0, slots := 0, locals := 21 } ss mm [.ref (m 0)].toArray bb me cd H locs 0 0 QQ (F0 mm 14 ls []) := by
      intro nn
      induction nn with
      | zero => intro i b1 hi hs1 hs2 hm; exact absurd hm (Nat.not_lt_zero _)
      | succ nn ih14 =>
        intro i b1 hi hs1 hs2 hm14 H locs hP hD hS ls hl
        refine lv_iload_n zx zb dX12_remembers_14 rfl (lv_at hl 1 rfl) ?_
        refine lv_bipush (v := nI 120) zx zb dX12_remembers_15 (by decide) ?_
        refine lv_icmp_ge (tgt := 47) zx zb dX12_remembers_17 (by decide) (fun c_17 => ?_) (fun c_17 => ?_)
        · have c_17 : 120 ≤ i := (nI_leI (a := 120) (b := i) (by omega) (by omega)).mp c_17
          refine lv_aload_n zx zb dX12_remembers_47 rfl (lv_at hl 0 rfl) ?_
          refine g_get (v := .ref (m 1)) XX hP 0 0 rfl rfl rfl iwX12 0 (by decide) fl_X12_7 rfl dX12_remembers_48 ?_
          refine lv_bipush (v := nI 6) zx zb dX12_remembers_51 (by decide) ?_
          refine lv_dup2_11 zx zb dX12_remembers_53 rfl rfl ?_
          refine g_ialdN (i := 6) XX hP 1 0 rfl rfl (by omega) (by decide) dX12_remembers_54 ?_
          refine g_top (y := nI 6) ((hs2 6 (by omega)).trans (by rw [hr.np, c_9])) ?_
          refine lv_iconst (v := nI 1) zx zb dX12_remembers_55 (by decide) ?_
          refine lv_isub zx zb dX12_remembers_56 ?_
          refine g_top (y := nI 5) (pk_sub (by decide)) ?_
          refine g_iastN (x := nI 5) (i := 6) (blk' := bA Γ (m 1) 259 (upd b1 6 (nI 5))) (bs' := [bMo Γ m M, bA Γ (m 1) 259 (upd b1 6 (nI 5))]) XX hP hD hS 1 0 rfl rfl (by omega) (by decide) rfl rfl dX12_remembers_57 (fun H locs hP hD hS => ?_)
          have hr := rem_sh hr c_9 htc hdc (fun k hk => hs1 k (by omega)) (fun k hk => hs2 k (by omega))
          generalize upd b1 6 (nI 5) = b_57 at hP hD hr
          refine lv_bipush (v := nI 115) zx zb dX12_remembers_58 (by decide) ?_
          refine lv_bipush (v := nI 24) zx zb dX12_remembers_60 (by decide) ?_
          refine lv_aload_n zx zb dX12_remembers_62 rfl (lv_at hl 0 rfl) ?_
          refine g_get (v := .ref (m 1)) XX hP 0 0 rfl rfl rfl iwX12 0 (by decide) fl_X12_7 rfl dX12_remembers_63 ?_
          refine lv_bipush (v := nI 6) zx zb dX12_remembers_66 (by decide) ?_
          refine g_ialdN (i := 6) XX hP 1 0 rfl rfl (by omega) (by decide) dX12_remembers_68 ?_
          refine g_top (y := nI 5) (hr.np) ?_
          refine lv_imul zx zb dX12_remembers_69 ?_
          refine g_top (y := nI 120) (pk_mul 24 5) ?_
          refine lv_iadd zx zb dX12_remembers_70 ?_
          refine g_top (y := nI 235) (nI_add 115 120) ?_
          refine lv_istore_n (lv' := [(1, .int (nI 235)), (0, .ref (m 0))]) zx zb dX12_remembers_71 rfl hl (by decide) rfl (fun ls hl => ?_)
          refine lv_aload_n zx zb dX12_remembers_72 rfl (lv_at hl 1 rfl) ?_
          refine g_get (v := .ref (m 1)) XX hP 0 0 rfl rfl rfl iwX12 0 (by decide) fl_X12_7 rfl dX12_remembers_73 ?_
          refine lv_iload_n zx zb dX12_remembers_76 rfl (lv_at hl 0 rfl) ?_
          refine lv_aload_n zx zb dX12_remembers_77 rfl (lv_at hl 1 rfl) ?_
          refine g_get (v := .ref (m 1)) XX hP 0 0 rfl rfl rfl iwX12 0 (by decide) fl_X12_7 rfl dX12_remembers_78 ?_
          refine lv_iconst (v := nI 1) zx zb dX12_remembers_81 (by decide) ?_
          refine g_ialdN (i := 1) XX hP 1 0 rfl rfl (by omega) (by decide) dX12_remembers_82 ?_
          refine g_top (y := Y.1) (Rel.y hr) ?_
          refine g_iastN (x := Y.1) (i := 235) (blk' := bA Γ (m 1) 259 (upd b_57 235 Y.1)) (bs' := [bMo Γ m M, bA Γ (m 1) 259 (upd b_57 235 Y.1)]) XX hP hD hS 1 0 rfl rfl (by omega) (by decide) rfl rfl dX12_remembers_83 (fun H locs hP hD hS => ?_)
          refine lv_aload_n zx zb dX12_remembers_84 rfl (lv_at hl 1 rfl) ?_
          refine g_get (v := .ref (m 1)) XX hP 0 0 rfl rfl rfl iwX12 0 (by decide) fl_X12_7 rfl dX12_remembers_85 ?_
          refine lv_iload_n zx zb dX12_remembers_88 rfl (lv_at hl 0 rfl) ?_
          refine lv_iconst (v := nI 1) zx zb dX12_remembers_89 (by decide) ?_
          refine lv_iadd zx zb dX12_remembers_90 ?_
          refine g_top (y := nI 236) (nI_add 235 1) ?_
          refine lv_aload_n zx zb dX12_remembers_91 rfl (lv_at hl 1 rfl) ?_
          refine g_get (v := .ref (m 1)) XX hP 0 0 rfl rfl rfl iwX12 0 (by decide) fl_X12_7 rfl dX12_remembers_92 ?_
          refine lv_iconst (v := nI 2) zx zb dX12_remembers_95 (by decide) ?_
          refine g_ialdN (i := 2) XX hP 1 0 rfl rfl (by omega) (by decide) dX12_remembers_96 ?_
          refine g_top (y := Y.2.1) (by rw [pk_un (by omega)]; exact hr.be) ?_
          refine g_iastN (x := Y.2.1) (i := 236) (blk' := bA Γ (m 1) 259 (upd (upd b_57 235 Y.1) 236 Y.2.1)) (bs' := [bMo Γ m M, bA Γ (m 1) 259 (upd (upd b_57 235 Y.1) 236 Y.2.1)]) XX hP hD hS 1 0 rfl rfl (by omega) (by decide) rfl rfl dX12_remembers_97 (fun H locs hP hD hS => ?_)
          refine lv_iconst (v := nI 0) zx zb dX12_remembers_98 (by decide) ?_
          refine lv_istore_n (lv' := [(2, .int (nI 0)), (1, .int (nI 235)), (0, .ref (m 0))]) zx zb dX12_remembers_99 rfl hl (by decide) rfl (fun ls hl => ?_)
          have L100 : ∀ (nn : Nat) (x1 : Nat) (b3 : Nat → Int32), (x1 ≤ 8) → (RemG C tr Y 5 (rotV P) b3 x1 0) → 8 - x1 < nn → ∀ (H : Heap) (locs : List Loc), bP Γ [bMo Γ m M, bA Γ (m 1) 259 b3] H → bD AA [bMo Γ m M, bA Γ (m 1) 259 b3] → va_S AA ss.heap H locs → ∀ (ls : Array Slot), lv_has ls 3 [(0, .ref (m 0)), (1, .int (nI 235)), (2, .int (nI x1))] → W pp l ee { frames := 1, cells := 0, slots := 0, locals := 21 } ss mm [.ref (m 0)].toArray bb me cd H locs 0 0 QQ (F0 mm 100 ls []) := by
            intro nn
            induction nn with
            | zero => intro x1 b3 hx hg hm; exact absurd hm (Nat.not_lt_zero _)
            | succ nn ih100 =>
              intro x1 b3 hx hg hm100 H locs hP hD hS ls hl
              refine lv_iload_n zx zb dX12_remembers_100 rfl (lv_at hl 2 rfl) ?_
              refine lv_bipush (v := nI 8) zx zb dX12_remembers_101 (by decide) ?_
              refine lv_icmp_ge (tgt := 153) zx zb dX12_remembers_103 (by decide) (fun c_103 => ?_) (fun c_103 => ?_)
              · have c_103 : 8 ≤ x1 := (nI_leI (a := 8) (b := x1) (by omega) (by omega)).mp c_103
                refine lv_iconst (v := nI 0) zx zb dX12_remembers_153 (by decide) ?_
                refine lv_istore_n (lv' := [(2, .int (nI 0)), (0, .ref (m 0)), (1, .int (nI 235))]) zx zb dX12_remembers_154 rfl hl (by decide) rfl (fun ls hl => ?_)
                have L155 : ∀ (nn : Nat) (t : Nat) (b4 : Nat → Int32), (t ≤ 6) → (RemG C tr Y 5 (rotV P) b4 8 t) → 6 - t < nn → ∀ (H : Heap) (locs : List Loc), bP Γ [bMo Γ m M, bA Γ (m 1) 259 b4] H → bD AA [bMo Γ m M, bA Γ (m 1) 259 b4] → va_S AA ss.heap H locs → ∀ (ls : Array Slot), lv_has ls 3 [(0, .ref (m 0)), (1, .int (nI 235)), (2, .int (nI t))] → W pp l ee { frames := 1, cells := 0, slots := 0, locals := 21 } ss mm [.ref (m 0)].toArray bb me cd H locs 0 0 QQ (F0 mm 155 ls []) := by
                  intro nn
                  induction nn with
                  | zero => intro t b4 ht hg hm; exact absurd hm (Nat.not_lt_zero _)
                  | succ nn ih155 =>
                    intro t b4 ht hg hm155 H locs hP hD hS ls hl
                    refine lv_iload_n zx zb dX12_remembers_155 rfl (lv_at hl 2 rfl) ?_
                    refine lv_bipush (v := nI 6) zx zb dX12_remembers_156 (by decide) ?_
                    refine lv_icmp_ge (tgt := 189) zx zb dX12_remembers_158 (by decide) (fun c_158 => ?_) (fun c_158 => ?_)
                    · have c_158 : 6 ≤ t := (nI_leI (a := 6) (b := t) (by omega) (by omega)).mp c_158
                      refine lv_aload_n zx zb dX12_remembers_189 rfl (lv_at hl 0 rfl) ?_
                      refine g_get (v := .ref (m 1)) XX hP 0 0 rfl rfl rfl iwX12 0 (by decide) fl_X12_7 rfl dX12_remembers_190 ?_
                      refine lv_bipush (v := nI 6) zx zb dX12_remembers_193 (by decide) ?_
                      refine lv_dup2_11 zx zb dX12_remembers_195 rfl rfl ?_
                      refine g_ialdN (i := 6) XX hP 1 0 rfl rfl (by omega) (by decide) dX12_remembers_196 ?_
                      refine g_top (y := nI 5) (rem_6 hg) ?_
                      refine lv_iconst (v := nI 1) zx zb dX12_remembers_197 (by decide) ?_
                      refine lv_iadd zx zb dX12_remembers_198 ?_
                      refine g_top (y := nI 6) (nI_add 5 1) ?_
                      refine g_iastN (x := nI 6) (i := 6) (blk' := bA Γ (m 1) 259 (upd b4 6 (nI 6))) (bs' := [bMo Γ m M, bA Γ (m 1) 259 (upd b4 6 (nI 6))]) XX hP hD hS 1 0 rfl rfl (by omega) (by decide) rfl rfl dX12_remembers_199 (fun H locs hP hD hS => ?_)
                      exact fin _ _ (upd b4 6 (nI 6)) 200 _ dX12_remembers_200 (rem_b (by have e : t = 6 := (by omega); subst e; exact hg) c_9 htc hdc) hP hD hS
                    · have c_158 : ¬ (6 ≤ t) := fun h => c_158 ((nI_leI (a := 6) (b := t) (by omega) (by omega)).mpr h)
                      refine lv_aload_n zx zb dX12_remembers_161 rfl (lv_at hl 0 rfl) ?_
                      refine g_get (v := .ref (m 1)) XX hP 0 0 rfl rfl rfl iwX12 0 (by decide) fl_X12_7 rfl dX12_remembers_162 ?_
                      refine lv_iload_n zx zb dX12_remembers_165 rfl (lv_at hl 1 rfl) ?_
                      refine lv_bipush (v := nI 18) zx zb dX12_remembers_166 (by decide) ?_
                      refine lv_iadd zx zb dX12_remembers_168 ?_
                      refine g_top (y := nI 253) (nI_add 235 18) ?_
                      refine lv_iload_n zx zb dX12_remembers_169 rfl (lv_at hl 2 rfl) ?_
                      refine lv_iadd zx zb dX12_remembers_170 ?_
                      refine g_top (y := nI (253 + t)) (nI_add 253 t) ?_
                      refine lv_aload_n zx zb dX12_remembers_171 rfl (lv_at hl 0 rfl) ?_
                      refine g_get (v := .ref (m 1)) XX hP 0 0 rfl rfl rfl iwX12 0 (by decide) fl_X12_7 rfl dX12_remembers_172 ?_
                      refine lv_iload_n zx zb dX12_remembers_175 rfl (lv_at hl 2 rfl) ?_
                      refine lv_bipush (v := nI 6) zx zb dX12_remembers_176 (by decide) ?_
                      refine callR_Si (As := [.int (nI t), .int (nI 6)]) (rest := [.ref (m 1), .int (nI (253 + t)), .ref (m 1)]) XX cs_X12_96 (c_X12_of0 Γ l t 6 ) hP hD hS hA nil_mem nil_D rfl hl.1 rfl ⟨⟨by decide, by decide⟩, by decide, by decide⟩ (Nat.le_of_ble_eq_true rfl) dX12_remembers_178 (fun r_178 H locs hw hP hS => ?_)
                      have hw := hw.symm
                      subst hw
                      refine g_ialdN (i := 55 + 7 * t + 6) XX hP 1 0 rfl rfl (by omega) (by decide) dX12_remembers_181 ?_
                      refine g_iastN (x := b4 (55 + 7 * t + 6)) (i := 253 + t) (blk' := bA Γ (m 1) 259 (upd b4 (253 + t) (b4 (55 + 7 * t + 6)))) (bs' := [bMo Γ m M, bA Γ (m 1) 259 (upd b4 (253 + t) (b4 (55 + 7 * t + 6)))]) XX hP hD hS 1 0 rfl rfl (by omega) (by decide) rfl rfl dX12_remembers_182 (fun H locs hP hD hS => ?_)
                      refine lv_iinc (v := nI (t + 1)) (lv' := [(2, .int (nI (t + 1))), (0, .ref (m 0)), (1, .int (nI 235))]) zx zb dX12_remembers_183 hl (k := 2) rfl (nI_inc _ 1) (by decide) rfl (fun ls hl => ?_)
                      refine lv_goto (tgt := 155) zx zb dX12_remembers_186 (by decide) ?_
                      exact ih155 (t + 1) (upd b4 (253 + t) (b4 (55 + 7 * t + 6))) (by omega) (rem_t hg (by omega)) (by omega) _ _ hP hD hS _ (lv_sub hl [1, 2, 0] rfl)
                exact L155 _ 0 b3 (by omega) (by have e : x1 = 8 := (by omega); subst e; exact hg) (Nat.lt_succ_self _) _ _ hP hD hS _ (lv_sub hl [1, 2, 0] rfl)
              · have c_103 : ¬ (8 ≤ x1) := fun h => c_103 ((nI_leI (a := 8) (b := x1) (by omega) (by omega)).mpr h)
                refine lv_aload_n zx zb dX12_remembers_106 rfl (lv_at hl 0 rfl) ?_
                refine g_get (v := .ref (m 1)) XX hP 0 0 rfl rfl rfl iwX12 0 (by decide) fl_X12_7 rfl dX12_remembers_107 ?_
                refine lv_iload_n zx zb dX12_remembers_110 rfl (lv_at hl 1 rfl) ?_
                refine lv_iconst (v := nI 2) zx zb dX12_remembers_111 (by decide) ?_
                refine lv_iadd zx zb dX12_remembers_112 ?_
                refine g_top (y := nI 237) (nI_add 235 2) ?_
                refine lv_iload_n zx zb dX12_remembers_113 rfl (lv_at hl 2 rfl) ?_
                refine lv_iadd zx zb dX12_remembers_114 ?_
                refine g_top (y := nI (237 + x1)) (nI_add 237 x1) ?_
                refine lv_aload_n zx zb dX12_remembers_115 rfl (lv_at hl 0 rfl) ?_
                refine g_get (v := .ref (m 1)) XX hP 0 0 rfl rfl rfl iwX12 0 (by decide) fl_X12_7 rfl dX12_remembers_116 ?_
                refine lv_iload_n zx zb dX12_remembers_119 rfl (lv_at hl 2 rfl) ?_
                refine lv_iconst (v := nI 3) zx zb dX12_remembers_120 (by decide) ?_
                refine callR_Si (As := [.int (nI x1), .int (nI 3)]) (rest := [.ref (m 1), .int (nI (237 + x1)), .ref (m 1)]) XX cs_X12_73 (c_X12_at Γ l x1 3 ) hP hD hS hA nil_mem nil_D rfl hl.1 rfl ⟨⟨by decide, by decide⟩, by decide, by decide⟩ (Nat.le_of_ble_eq_true rfl) dX12_remembers_121 (fun r_121 H locs hw hP hS => ?_)
                have hw := hw.symm
                subst hw
                refine g_ialdN (i := 15 + 5 * x1 + 3) XX hP 1 0 rfl rfl (by omega) (by decide) dX12_remembers_124 ?_
                refine g_top (y := Y.2.2.2.1 x1) (rem_d hg (by omega)) ?_
                refine g_iastN (x := Y.2.2.2.1 x1) (i := 237 + x1) (blk' := bA Γ (m 1) 259 (upd b3 (237 + x1) (Y.2.2.2.1 x1))) (bs' := [bMo Γ m M, bA Γ (m 1) 259 (upd b3 (237 + x1) (Y.2.2.2.1 x1))]) XX hP hD hS 1 0 rfl rfl (by omega) (by decide) rfl rfl dX12_remembers_125 (fun H locs hP hD hS => ?_)
                refine lv_aload_n zx zb dX12_remembers_126 rfl (lv_at hl 0 rfl) ?_
                refine g_get (v := .ref (m 1)) XX hP 0 0 rfl rfl rfl iwX12 0 (by decide) fl_X12_7 rfl dX12_remembers_127 ?_
                refine lv_iload_n zx zb dX12_remembers_130 rfl (lv_at hl 1 rfl) ?_
                refine lv_bipush (v := nI 10) zx zb dX12_remembers_131 (by decide) ?_
                refine lv_iadd zx zb dX12_remembers_133 ?_
                refine g_top (y := nI 245) (nI_add 235 10) ?_
                refine lv_iload_n zx zb dX12_remembers_134 rfl (lv_at hl 2 rfl) ?_
                refine lv_iadd zx zb dX12_remembers_135 ?_
                refine g_top (y := nI (245 + x1)) (nI_add 245 x1) ?_
                refine lv_aload_n zx zb dX12_remembers_136 rfl (lv_at hl 0 rfl) ?_
                refine g_get (v := .ref (m 1)) XX hP 0 0 rfl rfl rfl iwX12 0 (by decide) fl_X12_7 rfl dX12_remembers_137 ?_
                refine lv_iload_n zx zb dX12_remembers_140 rfl (lv_at hl 2 rfl) ?_
                refine lv_iconst (v := nI 4) zx zb dX12_remembers_141 (by decide) ?_
                refine callR_Si (As := [.int (nI x1), .int (nI 4)]) (rest := [.ref (m 1), .int (nI (245 + x1)), .ref (m 1)]) XX cs_X12_73 (c_X12_at Γ l x1 4 ) hP hD hS hA nil_mem nil_D rfl hl.1 rfl ⟨⟨by decide, by decide⟩, by decide, by decide⟩ (Nat.le_of_ble_eq_true rfl) dX12_remembers_142 (fun r_142 H locs hw hP hS => ?_)
                have hw := hw.symm
                subst hw
                refine g_ialdN (i := 15 + 5 * x1 + 4) XX hP 1 0 rfl rfl (by omega) (by decide) dX12_remembers_145 ?_
                refine g_top (y := Y.2.2.2.2 x1) (by rw [pk_un (by omega)]; exact rem_f hg (by omega)) ?_
                refine g_iastN (x := Y.2.2.2.2 x1) (i := 245 + x1) (blk' := bA Γ (m 1) 259 (upd (upd b3 (237 + x1) (Y.2.2.2.1 x1)) (245 + x1) (Y.2.2.2.2 x1))) (bs' := [bMo Γ m M, bA Γ (m 1) 259 (upd (upd b3 (237 + x1) (Y.2.2.2.1 x1)) (245 + x1) (Y.2.2.2.2 x1))]) XX hP hD hS 1 0 rfl rfl (by omega) (by decide) rfl rfl dX12_remembers_146 (fun H locs hP hD hS => ?_)
                refine lv_iinc (v := nI (x1 + 1)) (lv' := [(2, .int (nI (x1 + 1))), (0, .ref (m 0)), (1, .int (nI 235))]) zx zb dX12_remembers_147 hl (k := 2) rfl (nI_inc _ 1) (by decide) rfl (fun ls hl => ?_)
                refine lv_goto (tgt := 100) zx zb dX12_remembers_150 (by decide) ?_
                exact ih100 (x1 + 1) (upd (upd b3 (237 + x1) (Y.2.2.2.1 x1)) (245 + x1) (Y.2.2.2.2 x1)) (by omega) (rem_x hg (by omega)) (by omega) _ _ hP hD hS _ (lv_sub hl [1, 2, 0] rfl)
          exact L100 _ 0 (upd (upd b_57 235 Y.1) 236 Y.2.1) (by omega) (rem_0 hr) (Nat.lt_succ_self _) _ _ hP hD hS _ (lv_sub hl [2, 1, 0] rfl)
        · have c_17 : ¬ (120 ≤ i) := fun h => c_17 ((nI_leI (a := 120) (b := i) (by omega) (by omega)).mpr h)
          refine lv_aload_n zx zb dX12_remembers_20 rfl (lv_at hl 0 rfl) ?_
          refine g_get (v := .ref (m 1)) XX hP 0 0 rfl rfl rfl iwX12 0 (by decide) fl_X12_7 rfl dX12_remembers_21 ?_
          refine lv_bipush (v := nI 115) zx zb dX12_remembers_24 (by decide) ?_
          refine lv_iload_n zx zb dX12_remembers_26 rfl (lv_at hl 1 rfl) ?_
          refine lv_iadd zx zb dX12_remembers_27 ?_
          refine g_top (y := nI (115 + i)) (nI_add 115 i) ?_
          refine lv_aload_n zx zb dX12_remembers_28 rfl (lv_at hl 0 rfl) ?_
          refine g_get (v := .ref (m 1)) XX hP 0 0 rfl rfl rfl iwX12 0 (by decide) fl_X12_7 rfl dX12_remembers_29 ?_
          refine lv_bipush (v := nI 115) zx zb dX12_remembers_32 (by decide) ?_
          refine lv_iload_n zx zb dX12_remembers_34 rfl (lv_at hl 1 rfl) ?_
          refine lv_iadd zx zb dX12_remembers_35 ?_
          refine g_top (y := nI (115 + i)) (nI_add 115 i) ?_
          refine lv_bipush (v := nI 24) zx zb dX12_remembers_36 (by decide) ?_
          refine lv_iadd zx zb dX12_remembers_38 ?_
          refine g_top (y := nI (115 + i + 24)) (nI_add (115 + i) 24) ?_
          refine g_ialdN (i := 115 + i + 24) XX hP 1 0 rfl rfl (by omega) (by decide) dX12_remembers_39 ?_
          refine g_iastN (x := b1 (115 + i + 24)) (i := 115 + i) (blk' := bA Γ (m 1) 259 (upd b1 (115 + i) (b1 (115 + i + 24)))) (bs' := [bMo Γ m M, bA Γ (m 1) 259 (upd b1 (115 + i) (b1 (115 + i + 24)))]) XX hP hD hS 1 0 rfl rfl (by omega) (by decide) rfl rfl dX12_remembers_40 (fun H locs hP hD hS => ?_)
          refine lv_iinc (v := nI (i + 1)) (lv' := [(1, .int (nI (i + 1))), (0, .ref (m 0))]) zx zb dX12_remembers_41 hl (k := 1) rfl (nI_inc _ 1) (by decide) rfl (fun ls hl => ?_)
          refine lv_goto (tgt := 14) zx zb dX12_remembers_44 (by decide) ?_
          exact ih14 (i + 1) (upd b1 (115 + i) (b1 (115 + i + 24))) (by omega) (sh_1 hs1 hs2) (sh_2 hs2) (by omega) _ _ hP hD hS _ (lv_sub hl [1, 0] rfl)
    exact L14 _ 0 b (by omega) (fun k hk => absurd hk (Nat.not_lt_zero _)) (fun k _ => rfl) (Nat.lt_succ_self _) _ _ hP hD hS _ (lv_sub hl [1, 0] rfl)

set_option maxHeartbeats 4000000 in
set_option maxRecDepth 100000 in
theorem c_X12_year (Γ : GG) (l : Launch) (m : Nat → Nat) (M : MoV) (b : Nat → Int32) (C : CoV) (tr : Nat → TrV) (Y : YrV) (pc : Nat) (P : Nat → YrV) (f : Nat → Int32) (y : Nat) (n : Int32) (hr : Rel b C tr Y pc P) (hI : Inv C tr Y) (hpc : pc ≤ 6) (hy : Y.1 = nI y) (hyb : y + 30 < 1000000) : Ci Γ l yX12_year cX12_year 3 (some (.int)) 4 98 0 0 [.ref (m 0), .int n] [bMo Γ m M, bA Γ (m 1) 259 b, bA Γ (m 6) 3 f] (fun (r : Int32) (u : (Nat → Int32) × (Nat → Int32)) => r = yeR C tr Y n ∧ Rel u.1 C tr (yeS C tr Y pc P n).1 (yeS C tr Y pc P n).2.1 (yeS C tr Y pc P n).2.2 ∧ u.2 = yeF M f Y n) (fun (u : (Nat → Int32) × (Nat → Int32)) => [bMo Γ m M, bA Γ (m 1) 259 u.1, bA Γ (m 6) 3 u.2]) := by
  refine Ci.of (Or.inl rfl) (by decide) (Nat.le_of_ble_eq_true rfl) ?_
  intro pp ee ss mm bb me cd AA QQ XX hnm hA hP hD fin ls hl
  obtain ⟨zx, zb, hml, hown, hts, hK⟩ := id XX
  have hS : va_S AA ss.heap ss.heap [] := va_S.rf
  have hl : lv_has ls 3 [(0, .ref (m 0)), (1, .int n)] := hl
  have htc := inv_tc hI
  have hdc := inv_dc hI
  have hn := inv_n hI
  refine lv_iload_n zx zb dX12_year_0 rfl (lv_at hl 1 rfl) ?_
  refine lv_i2l (v := n.toInt64) zx zb dX12_year_1 rfl ?_
  refine lv_lconst (v := (1 : Int32).toInt64) zx zb dX12_year_2 (by decide) ?_
  refine lv_ldc2 zx zb hown (hts _ kl_X12_67) dX12_year_3 ?_
  refine g_topl (y := (9 : Int32).toInt64) (by decide) ?_
  refine callR_Si (As := [.long n.toInt64, .long ((1 : Int32).toInt64), .long ((9 : Int32).toInt64)]) (rest := []) XX cs_X12_53 (c_X12_in Γ l n 1 9 ) hP hD hS hA nil_mem nil_D rfl hl.1 rfl ⟨⟨by decide, by decide⟩, by decide, by decide⟩ (Nat.le_of_ble_eq_true rfl) dX12_year_6 (fun r_6 H locs hw hP hS => ?_)
  have hw := hw.symm
  subst hw
  refine lv_if_ne (tgt := 17) zx zb dX12_year_9 (by decide) (fun c_9 => ?_) (fun c_9 => ?_)
  · have c_9 : (wi n 1 9) = true := bI_ne c_9
    refine lv_aload_n zx zb dX12_year_17 rfl (lv_at hl 0 rfl) ?_
    refine g_get (v := .ref (m 1)) XX hP 0 0 rfl rfl rfl iwX12 0 (by decide) fl_X12_7 rfl dX12_year_18 ?_
    refine lv_iconst (v := nI 1) zx zb dX12_year_21 (by decide) ?_
    refine g_ialdN (i := 1) XX hP 1 0 rfl rfl (by omega) (by decide) dX12_year_22 ?_
    refine g_top (y := Y.1) (Rel.y hr) ?_
    refine lv_sipush (v := nI 900) zx zb dX12_year_23 (by decide) ?_
    refine lv_icmp_le (tgt := 34) zx zb dX12_year_26 (by decide) (fun c_26 => ?_) (fun c_26 => ?_)
    · have c_26 : Y.1 ≤ (900 : Int32) := c_26
      obtain ⟨j, hj, rfl⟩ := wi_nat 1 9 c_9 rfl rfl (by decide)
      refine lv_iconst (v := nI 0) zx zb dX12_year_34 (by decide) ?_
      refine lv_istore_n (lv' := [(2, .int (nI 0)), (0, .ref (m 0)), (1, .int (nI j))]) zx zb dX12_year_35 rfl hl (by decide) rfl (fun ls hl => ?_)
      have L36 : ∀ (nn : Nat) (i : Nat) (b1 : Nat → Int32) (Q : YrV) (g : Nat) (R : Nat → YrV), (i ≤ j) → (g ≤ 6) → (Q.1 = nI (y + i)) → ((Q, g, R) = yrsRun C tr Y pc P i) → (Rel b1 C tr Q g R) → j - i < nn → ∀ (H : Heap) (locs : List Loc), bP Γ [bMo Γ m M, bA Γ (m 1) 259 b1, bA Γ (m 6) 3 f] H → bD AA [bMo Γ m M, bA Γ (m 1) 259 b1, bA Γ (m 6) 3 f] → va_S AA ss.heap H locs → ∀ (ls : Array Slot), lv_has ls 3 [(0, .ref (m 0)), (1, .int (nI j)), (2, .int (nI i))] → W pp l ee { frames := 4, cells := 0, slots := 0, locals := 98 } ss mm [.ref (m 0), .int (nI j)].toArray bb me cd H locs 0 0 QQ (F0 mm 36 ls []) := by
        intro nn
        induction nn with
        | zero => intro i b1 Q g R hi hg hQy hQ hr1 hm; exact absurd hm (Nat.not_lt_zero _)
        | succ nn ih36 =>
          intro i b1 Q g R hi hg hQy hQ hr1 hm36 H locs hP hD hS ls hl
          have hIZ : Inv C tr Q := inv_at hI hQy (by omega)
          refine lv_iload_n zx zb dX12_year_36 rfl (lv_at hl 2 rfl) ?_
          refine lv_iload_n zx zb dX12_year_37 rfl (lv_at hl 1 rfl) ?_
          refine lv_icmp_ge (tgt := 66) zx zb dX12_year_38 (by decide) (fun c_38 => ?_) (fun c_38 => ?_)
          · have c_38 : j ≤ i := (nI_leI (a := j) (b := i) (by omega) (by omega)).mp c_38
            refine lv_aload_n zx zb dX12_year_66 rfl (lv_at hl 0 rfl) ?_
            refine g_get (v := .ref (m 1)) XX hP 0 0 rfl rfl rfl iwX12 0 (by decide) fl_X12_7 rfl dX12_year_67 ?_
            refine lv_iconst (v := nI 2) zx zb dX12_year_70 (by decide) ?_
            refine g_ialdN (i := 2) XX hP 1 0 rfl rfl (by omega) (by decide) dX12_year_71 ?_
            refine g_top (y := Q.2.1) (Rel.be hr1) ?_
            exact fin _ _ Q.2.1 (b1, f) 72 _ dX12_year_72 (fun h => by cases h) (yem_3 hr1 c_9 c_26 (by omega) (by have e : i = j := (by omega); subst e; exact hQ)) hP hD hS
          · have c_38 : ¬ (j ≤ i) := fun h => c_38 ((nI_leI (a := j) (b := i) (by omega) (by omega)).mpr h)
            refine lv_aload_n zx zb dX12_year_41 rfl (lv_at hl 0 rfl) ?_
            refine call_Vv (As := []) (rest := []) XX cv_X12_212 (c_X12_remembers Γ l m M b1 C tr Q g R (hr1) (hIZ) (hg)) hP hD hS hA [0, 1] (by decide) rfl (fun _ => rfl) 0 0 rfl rfl rfl rfl hl.1 rfl ⟨⟨by decide, by decide⟩, by decide, by decide⟩ (Nat.le_of_ble_eq_true rfl) dX12_year_42 (fun u H locs hw hP hD hS => ?_)
            obtain ⟨u_42, rfl⟩ : ∃ z, z = u := ⟨_, rfl⟩
            have w_42 := hw
            have hP : bP Γ [bMo Γ m M, bA Γ (m 1) 259 u_42, bA Γ (m 6) 3 f] H := hP
            have hD : bD AA [bMo Γ m M, bA Γ (m 1) 259 u_42, bA Γ (m 6) 3 f] := hD
            refine lv_aload_n zx zb dX12_year_45 rfl (lv_at hl 0 rfl) ?_
            refine lv_aload_n zx zb dX12_year_46 rfl (lv_at hl 0 rfl) ?_
            refine lv_aload_n zx zb dX12_year_47 rfl (lv_at hl 0 rfl) ?_
            refine g_get (v := .ref (m 1)) XX hP 0 0 rfl rfl rfl iwX12 0 (by decide) fl_X12_7 rfl dX12_year_48 ?_
            refine lv_iconst (v := nI 1) zx zb dX12_year_51 (by decide) ?_
            refine g_ialdN (i := 1) XX hP 1 0 rfl rfl (by omega) (by decide) dX12_year_52 ?_
            refine g_top (y := Q.1) (Rel.y w_42) ?_
            refine call_Vi (As := [.int Q.1]) (rest := [.ref (m 0)]) XX cv_X12_215 (c_X12_stormOf Γ l m M u_42 C tr Q ((pastPush Q g R).1) ((pastPush Q g R).2) Q.1 (w_42) (hIZ) (inv_y hIZ)) hP hD hS hA [0, 1] (by decide) rfl (fun _ => rfl) 0 0 rfl rfl rfl rfl hl.1 rfl ⟨⟨by decide, by decide⟩, by decide, by decide⟩ (Nat.le_of_ble_eq_true rfl) dX12_year_53 (fun r_53 u H locs hw hP hD hS => ?_)
            have hw := hw.symm
            subst hw
            have hP : bP Γ [bMo Γ m M, bA Γ (m 1) 259 u_42, bA Γ (m 6) 3 f] H := hP
            have hD : bD AA [bMo Γ m M, bA Γ (m 1) 259 u_42, bA Γ (m 6) 3 f] := hD
            refine call_Vi (As := [.int (coStorm C Q.1)]) (rest := []) XX cv_X12_218 (c_X12_goes Γ l m M u_42 C tr Q ((pastPush Q g R).1) ((pastPush Q g R).2) (coStorm C Q.1) (w_42) (hIZ)) hP hD hS hA [0, 1] (by decide) rfl (fun _ => rfl) 0 0 rfl rfl rfl rfl hl.1 rfl ⟨⟨by decide, by decide⟩, by decide, by decide⟩ (Nat.le_of_ble_eq_true rfl) dX12_year_56 (fun r_56 u H locs hw hP hD hS => ?_)
            obtain ⟨u_56, rfl⟩ : ∃ z, z = u := ⟨_, rfl⟩
            have w_56 := hw
            have hP : bP Γ [bMo Γ m M, bA Γ (m 1) 259 u_56, bA Γ (m 6) 3 f] H := hP
            have hD : bD AA [bMo Γ m M, bA Γ (m 1) 259 u_56, bA Γ (m 6) 3 f] := hD
            refine lv_pop zx zb dX12_year_59 rfl ?_
            refine lv_iinc (v := nI (i + 1)) (lv' := [(2, .int (nI (i + 1))), (0, .ref (m 0)), (1, .int (nI j))]) zx zb dX12_year_60 hl (k := 2) rfl (nI_inc _ 1) (by decide) rfl (fun ls hl => ?_)
            refine lv_goto (tgt := 36) zx zb dX12_year_63 (by decide) ?_
            exact ih36 (i + 1) u_56 (coNext C tr Q) ((pastPush Q g R).1) ((pastPush Q g R).2) (by omega) (pp_le hg) (by unfold coNext; rw [coYear_y, hQy]; exact nI_s _) (by rw [yrsRun, ← hQ]) (w_56.2) (by omega) _ _ hP hD hS _ (lv_sub hl [1, 2, 0] rfl)
      exact L36 _ 0 b Y pc P (by omega) (hpc) (hy) (rfl) (hr) (Nat.lt_succ_self _) _ _ hP hD hS _ (lv_sub hl [1, 2, 0] rfl)
    · have c_26 : ¬ (Y.1 ≤ (900 : Int32)) := c_26
      refine lv_aload_n zx zb dX12_year_29 rfl (lv_at hl 0 rfl) ?_
      refine call_Vi (As := []) (rest := []) XX cv_X12_102 (c_X12_no Γ l m M f ) hP hD hS hA [0, 2] (by decide) rfl (fun _ => rfl) 0 0 rfl rfl rfl rfl hl.1 rfl ⟨⟨by decide, by decide⟩, by decide, by decide⟩ (Nat.le_of_ble_eq_true rfl) dX12_year_30 (fun r_30 u H locs hw hP hD hS => ?_)
      obtain ⟨hw1, hw2⟩ := hw
      have hw1 := hw1.symm
      have hw2 := hw2.symm
      subst hw1
      subst hw2
      have hP : bP Γ [bMo Γ m M, bA Γ (m 1) 259 b, bA Γ (m 6) 3 (moRef M f 1)] H := hP
      have hD : bD AA [bMo Γ m M, bA Γ (m 1) 259 b, bA Γ (m 6) 3 (moRef M f 1)] := hD
      exact fin _ _ (-3) (b, (moRef M f 1)) 33 _ dX12_year_33 (fun h => by cases h) (yem_2 hr c_9 (Int32.not_le.mpr (Int32.not_le.mp c_26))) hP hD hS
  · have c_9 : (wi n 1 9) = false := bI_0.mp c_9
    refine lv_aload_n zx zb dX12_year_12 rfl (lv_at hl 0 rfl) ?_
    refine call_Vi (As := []) (rest := []) XX cv_X12_59 (c_X12_bad Γ l m M f ) hP hD hS hA [0, 2] (by decide) rfl (fun _ => rfl) 0 0 rfl rfl rfl rfl hl.1 rfl ⟨⟨by decide, by decide⟩, by decide, by decide⟩ (Nat.le_of_ble_eq_true rfl) dX12_year_13 (fun r_13 u H locs hw hP hD hS => ?_)
    obtain ⟨hw1, hw2⟩ := hw
    have hw1 := hw1.symm
    have hw2 := hw2.symm
    subst hw1
    subst hw2
    have hP : bP Γ [bMo Γ m M, bA Γ (m 1) 259 b, bA Γ (m 6) 3 (moRef M f 0)] H := hP
    have hD : bD AA [bMo Γ m M, bA Γ (m 1) 259 b, bA Γ (m 6) 3 (moRef M f 0)] := hD
    exact fin _ _ (-2) (b, (moRef M f 0)) 16 _ dX12_year_16 (fun h => by cases h) (yem_1 hr c_9) hP hD hS

set_option maxHeartbeats 4000000 in
set_option maxRecDepth 100000 in
theorem c_X12_undo_0 (Γ : GG) (l : Launch) (m : Nat → Nat) (M : MoV) (b : Nat → Int32) (C : CoV) (tr : Nat → TrV) (Y : YrV) (P : Nat → YrV) (f : Nat → Int32) (hr : Rel b C tr Y 0 P) : Ci Γ l yX12_undo cX12_undo 3 (some (.int)) 2 42 0 0 [.ref (m 0)] [bMo Γ m M, bA Γ (m 1) 259 b, bA Γ (m 6) 3 f] (fun (r : Int32) (u : Nat → Int32) => r = (-3) ∧ u = moRef M f 1) (fun (u : Nat → Int32) => [bMo Γ m M, bA Γ (m 1) 259 b, bA Γ (m 6) 3 u]) := by
  refine Ci.of (Or.inl rfl) (by decide) (Nat.le_of_ble_eq_true rfl) ?_
  intro pp ee ss mm bb me cd AA QQ XX hnm hA hP hD fin ls hl
  obtain ⟨zx, zb, hml, hown, hts, hK⟩ := id XX
  have hS : va_S AA ss.heap ss.heap [] := va_S.rf
  have hl : lv_has ls 3 [(0, .ref (m 0))] := hl
  refine lv_aload_n zx zb dX12_undo_0 rfl (lv_at hl 0 rfl) ?_
  refine g_get (v := .ref (m 1)) XX hP 0 0 rfl rfl rfl iwX12 0 (by decide) fl_X12_7 rfl dX12_undo_1 ?_
  refine lv_bipush (v := nI 6) zx zb dX12_undo_4 (by decide) ?_
  refine g_ialdN (i := 6) XX hP 1 0 rfl rfl (by omega) (by decide) dX12_undo_6 ?_
  refine g_top (y := nI 0) (Rel.np hr) ?_
  refine lv_if_ne (tgt := 15) zx zb dX12_undo_7 (by decide) (fun c_7 => ?_) (fun c_7 => ?_)
  · exact absurd c_7 (by decide)
  · clear c_7
    refine lv_aload_n zx zb dX12_undo_10 rfl (lv_at hl 0 rfl) ?_
    refine call_Vi (As := []) (rest := []) XX cv_X12_102 (c_X12_no Γ l m M f ) hP hD hS hA [0, 2] (by decide) rfl (fun _ => rfl) 0 0 rfl rfl rfl rfl hl.1 rfl ⟨⟨by decide, by decide⟩, by decide, by decide⟩ (Nat.le_of_ble_eq_true rfl) dX12_undo_11 (fun r_11 u H locs hw hP hD hS => ?_)
    obtain ⟨hw1, hw2⟩ := hw
    have hw1 := hw1.symm
    have hw2 := hw2.symm
    subst hw1
    subst hw2
    have hP : bP Γ [bMo Γ m M, bA Γ (m 1) 259 b, bA Γ (m 6) 3 (moRef M f 1)] H := hP
    have hD : bD AA [bMo Γ m M, bA Γ (m 1) 259 b, bA Γ (m 6) 3 (moRef M f 1)] := hD
    exact fin _ _ (-3) (moRef M f 1) 14 _ dX12_undo_14 (fun h => by cases h) ⟨(rfl), (rfl)⟩ hP hD hS

set_option maxHeartbeats 4000000 in
set_option maxRecDepth 100000 in
theorem c_X12_undo_s (Γ : GG) (l : Launch) (m : Nat → Nat) (M : MoV) (b : Nat → Int32) (C : CoV) (tr : Nat → TrV) (Y : YrV) (pc : Nat) (P : Nat → YrV) (hr : Rel b C tr Y (pc + 1) P) (hI : Inv C tr Y) (hpc : pc < 6) : Ci Γ l yX12_undo cX12_undo 3 (some (.int)) 1 21 0 0 [.ref (m 0)] [bMo Γ m M, bA Γ (m 1) 259 b] (fun (r : Int32) (u : Nat → Int32) => r = nI 1 ∧ Rel u C tr (P pc) pc P) (fun (u : Nat → Int32) => [bMo Γ m M, bA Γ (m 1) 259 u]) := by
  refine Ci.of (Or.inl rfl) (by decide) (Nat.le_of_ble_eq_true rfl) ?_
  intro pp ee ss mm bb me cd AA QQ XX hnm hA hP hD fin ls hl
  obtain ⟨zx, zb, hml, hown, hts, hK⟩ := id XX
  have hS : va_S AA ss.heap ss.heap [] := va_S.rf
  have hl : lv_has ls 3 [(0, .ref (m 0))] := hl
  have htc := inv_tc hI
  have hdc := inv_dc hI
  have hn := inv_n hI
  refine lv_aload_n zx zb dX12_undo_0 rfl (lv_at hl 0 rfl) ?_
  refine g_get (v := .ref (m 1)) XX hP 0 0 rfl rfl rfl iwX12 0 (by decide) fl_X12_7 rfl dX12_undo_1 ?_
  refine lv_bipush (v := nI 6) zx zb dX12_undo_4 (by decide) ?_
  refine g_ialdN (i := 6) XX hP 1 0 rfl rfl (by omega) (by decide) dX12_undo_6 ?_
  refine g_top (y := nI (pc + 1)) (Rel.np hr) ?_
  refine lv_if_ne (tgt := 15) zx zb dX12_undo_7 (by decide) (fun c_7 => ?_) (fun c_7 => ?_)
  · have c_7 : ¬ (pc + 1 = 0) := fun h => c_7 ((nI_eq (a := pc + 1) (b := 0) (by omega) (by omega)).mpr h)
    refine lv_aload_n zx zb dX12_undo_15 rfl (lv_at hl 0 rfl) ?_
    refine g_get (v := .ref (m 1)) XX hP 0 0 rfl rfl rfl iwX12 0 (by decide) fl_X12_7 rfl dX12_undo_16 ?_
    refine lv_bipush (v := nI 6) zx zb dX12_undo_19 (by decide) ?_
    refine lv_dup2_11 zx zb dX12_undo_21 rfl rfl ?_
    refine g_ialdN (i := 6) XX hP 1 0 rfl rfl (by omega) (by decide) dX12_undo_22 ?_
    refine g_top (y := nI (pc + 1)) (Rel.np hr) ?_
    refine lv_iconst (v := nI 1) zx zb dX12_undo_23 (by decide) ?_
    refine lv_isub zx zb dX12_undo_24 ?_
    refine g_top (y := nI (pc + 1 - 1)) (pk_sub (by omega)) ?_
    refine g_top (y := nI pc) (rfl) ?_
    refine g_iastN (x := nI pc) (i := 6) (blk' := bA Γ (m 1) 259 (upd b 6 (nI pc))) (bs' := [bMo Γ m M, bA Γ (m 1) 259 (upd b 6 (nI pc))]) XX hP hD hS 1 0 rfl rfl (by omega) (by decide) rfl rfl dX12_undo_25 (fun H locs hP hD hS => ?_)
    refine lv_bipush (v := nI 115) zx zb dX12_undo_26 (by decide) ?_
    refine lv_bipush (v := nI 24) zx zb dX12_undo_28 (by decide) ?_
    refine lv_aload_n zx zb dX12_undo_30 rfl (lv_at hl 0 rfl) ?_
    refine g_get (v := .ref (m 1)) XX hP 0 0 rfl rfl rfl iwX12 0 (by decide) fl_X12_7 rfl dX12_undo_31 ?_
    refine lv_bipush (v := nI 6) zx zb dX12_undo_34 (by decide) ?_
    refine g_ialdN (i := 6) XX hP 1 0 rfl rfl (by omega) (by decide) dX12_undo_36 ?_
    refine g_top (y := nI pc) (pk_us) ?_
    refine lv_imul zx zb dX12_undo_37 ?_
    refine g_top (y := nI (24 * pc)) (pk_mul 24 pc) ?_
    refine lv_iadd zx zb dX12_undo_38 ?_
    refine g_top (y := nI (115 + (24 * pc))) (nI_add 115 (24 * pc)) ?_
    refine lv_istore_n (lv' := [(1, .int (nI (115 + (24 * pc)))), (0, .ref (m 0))]) zx zb dX12_undo_39 rfl hl (by decide) rfl (fun ls hl => ?_)
    refine lv_aload_n zx zb dX12_undo_40 rfl (lv_at hl 1 rfl) ?_
    refine g_get (v := .ref (m 1)) XX hP 0 0 rfl rfl rfl iwX12 0 (by decide) fl_X12_7 rfl dX12_undo_41 ?_
    refine lv_iconst (v := nI 1) zx zb dX12_undo_44 (by decide) ?_
    refine lv_aload_n zx zb dX12_undo_45 rfl (lv_at hl 1 rfl) ?_
    refine g_get (v := .ref (m 1)) XX hP 0 0 rfl rfl rfl iwX12 0 (by decide) fl_X12_7 rfl dX12_undo_46 ?_
    refine lv_iload_n zx zb dX12_undo_49 rfl (lv_at hl 0 rfl) ?_
    refine g_ialdN (i := 115 + (24 * pc)) XX hP 1 0 rfl rfl (by omega) (by decide) dX12_undo_50 ?_
    refine g_iastN (x := (upd b 6 (nI pc)) (115 + (24 * pc))) (i := 1) (blk' := bA Γ (m 1) 259 (upd (upd b 6 (nI pc)) 1 ((upd b 6 (nI pc)) (115 + (24 * pc))))) (bs' := [bMo Γ m M, bA Γ (m 1) 259 (upd (upd b 6 (nI pc)) 1 ((upd b 6 (nI pc)) (115 + (24 * pc))))]) XX hP hD hS 1 0 rfl rfl (by omega) (by decide) rfl rfl dX12_undo_51 (fun H locs hP hD hS => ?_)
    refine lv_aload_n zx zb dX12_undo_52 rfl (lv_at hl 1 rfl) ?_
    refine g_get (v := .ref (m 1)) XX hP 0 0 rfl rfl rfl iwX12 0 (by decide) fl_X12_7 rfl dX12_undo_53 ?_
    refine lv_iconst (v := nI 2) zx zb dX12_undo_56 (by decide) ?_
    refine lv_aload_n zx zb dX12_undo_57 rfl (lv_at hl 1 rfl) ?_
    refine g_get (v := .ref (m 1)) XX hP 0 0 rfl rfl rfl iwX12 0 (by decide) fl_X12_7 rfl dX12_undo_58 ?_
    refine lv_iload_n zx zb dX12_undo_61 rfl (lv_at hl 0 rfl) ?_
    refine lv_iconst (v := nI 1) zx zb dX12_undo_62 (by decide) ?_
    refine lv_iadd zx zb dX12_undo_63 ?_
    refine g_top (y := nI (115 + (24 * pc) + 1)) (nI_add (115 + (24 * pc)) 1) ?_
    refine g_ialdN (i := 115 + (24 * pc) + 1) XX hP 1 0 rfl rfl (by omega) (by decide) dX12_undo_64 ?_
    refine g_iastN (x := (upd (upd b 6 (nI pc)) 1 ((upd b 6 (nI pc)) (115 + (24 * pc)))) (115 + (24 * pc) + 1)) (i := 2) (blk' := bA Γ (m 1) 259 (upd (upd (upd b 6 (nI pc)) 1 ((upd b 6 (nI pc)) (115 + (24 * pc)))) 2 ((upd (upd b 6 (nI pc)) 1 ((upd b 6 (nI pc)) (115 + (24 * pc)))) (115 + (24 * pc) + 1)))) (bs' := [bMo Γ m M, bA Γ (m 1) 259 (upd (upd (upd b 6 (nI pc)) 1 ((upd b 6 (nI pc)) (115 + (24 * pc)))) 2 ((upd (upd b 6 (nI pc)) 1 ((upd b 6 (nI pc)) (115 + (24 * pc)))) (115 + (24 * pc) + 1)))]) XX hP hD hS 1 0 rfl rfl (by omega) (by decide) rfl rfl dX12_undo_65 (fun H locs hP hD hS => ?_)
    refine lv_iconst (v := nI 0) zx zb dX12_undo_66 (by decide) ?_
    refine lv_istore_n (lv' := [(2, .int (nI 0)), (1, .int (nI (115 + (24 * pc)))), (0, .ref (m 0))]) zx zb dX12_undo_67 rfl hl (by decide) rfl (fun ls hl => ?_)
    have L68 : ∀ (nn : Nat) (x1 : Nat) (b3 : Nat → Int32), (x1 ≤ 8) → (UndG b b3 pc x1 0) → 8 - x1 < nn → ∀ (H : Heap) (locs : List Loc), bP Γ [bMo Γ m M, bA Γ (m 1) 259 b3] H → bD AA [bMo Γ m M, bA Γ (m 1) 259 b3] → va_S AA ss.heap H locs → ∀ (ls : Array Slot), lv_has ls 3 [(0, .ref (m 0)), (1, .int (nI (115 + 24 * pc))), (2, .int (nI x1))] → W pp l ee { frames := 1, cells := 0, slots := 0, locals := 21 } ss mm [.ref (m 0)].toArray bb me cd H locs 0 0 QQ (F0 mm 68 ls []) := by
      intro nn
      induction nn with
      | zero => intro x1 b3 hx hg hm; exact absurd hm (Nat.not_lt_zero _)
      | succ nn ih68 =>
        intro x1 b3 hx hg hm68 H locs hP hD hS ls hl
        refine lv_iload_n zx zb dX12_undo_68 rfl (lv_at hl 2 rfl) ?_
        refine lv_bipush (v := nI 8) zx zb dX12_undo_69 (by decide) ?_
        refine lv_icmp_ge (tgt := 121) zx zb dX12_undo_71 (by decide) (fun c_71 => ?_) (fun c_71 => ?_)
        · have c_71 : 8 ≤ x1 := (nI_leI (a := 8) (b := x1) (by omega) (by omega)).mp c_71
          refine lv_iconst (v := nI 0) zx zb dX12_undo_121 (by decide) ?_
          refine lv_istore_n (lv' := [(2, .int (nI 0)), (0, .ref (m 0)), (1, .int (nI (115 + 24 * pc)))]) zx zb dX12_undo_122 rfl hl (by decide) rfl (fun ls hl => ?_)
          have L123 : ∀ (nn : Nat) (t : Nat) (b4 : Nat → Int32), (t ≤ 6) → (UndG b b4 pc 8 t) → 6 - t < nn → ∀ (H : Heap) (locs : List Loc), bP Γ [bMo Γ m M, bA Γ (m 1) 259 b4] H → bD AA [bMo Γ m M, bA Γ (m 1) 259 b4] → va_S AA ss.heap H locs → ∀ (ls : Array Slot), lv_has ls 3 [(0, .ref (m 0)), (1, .int (nI (115 + 24 * pc))), (2, .int (nI t))] → W pp l ee { frames := 1, cells := 0, slots := 0, locals := 21 } ss mm [.ref (m 0)].toArray bb me cd H locs 0 0 QQ (F0 mm 123 ls []) := by
            intro nn
            induction nn with
            | zero => intro t b4 ht hg hm; exact absurd hm (Nat.not_lt_zero _)
            | succ nn ih123 =>
              intro t b4 ht hg hm123 H locs hP hD hS ls hl
              refine lv_iload_n zx zb dX12_undo_123 rfl (lv_at hl 2 rfl) ?_
              refine lv_bipush (v := nI 6) zx zb dX12_undo_124 (by decide) ?_
              refine lv_icmp_ge (tgt := 157) zx zb dX12_undo_126 (by decide) (fun c_126 => ?_) (fun c_126 => ?_)
              · have c_126 : 6 ≤ t := (nI_leI (a := 6) (b := t) (by omega) (by omega)).mp c_126
                refine lv_iconst (v := nI 1) zx zb dX12_undo_157 (by decide) ?_
                exact fin _ _ (nI 1) b4 158 _ dX12_undo_158 (fun h => by cases h) (⟨rfl, und_end hr htc hdc (by have e : t = 6 := (by omega); subst e; exact hg)⟩) hP hD hS
              · have c_126 : ¬ (6 ≤ t) := fun h => c_126 ((nI_leI (a := 6) (b := t) (by omega) (by omega)).mpr h)
                refine lv_aload_n zx zb dX12_undo_129 rfl (lv_at hl 0 rfl) ?_
                refine g_get (v := .ref (m 1)) XX hP 0 0 rfl rfl rfl iwX12 0 (by decide) fl_X12_7 rfl dX12_undo_130 ?_
                refine lv_iload_n zx zb dX12_undo_133 rfl (lv_at hl 2 rfl) ?_
                refine lv_bipush (v := nI 6) zx zb dX12_undo_134 (by decide) ?_
                refine callR_Si (As := [.int (nI t), .int (nI 6)]) (rest := [.ref (m 1)]) XX cs_X12_96 (c_X12_of0 Γ l t 6 ) hP hD hS hA nil_mem nil_D rfl hl.1 rfl ⟨⟨by decide, by decide⟩, by decide, by decide⟩ (Nat.le_of_ble_eq_true rfl) dX12_undo_136 (fun r_136 H locs hw hP hS => ?_)
                have hw := hw.symm
                subst hw
                refine lv_aload_n zx zb dX12_undo_139 rfl (lv_at hl 0 rfl) ?_
                refine g_get (v := .ref (m 1)) XX hP 0 0 rfl rfl rfl iwX12 0 (by decide) fl_X12_7 rfl dX12_undo_140 ?_
                refine lv_iload_n zx zb dX12_undo_143 rfl (lv_at hl 1 rfl) ?_
                refine lv_bipush (v := nI 18) zx zb dX12_undo_144 (by decide) ?_
                refine lv_iadd zx zb dX12_undo_146 ?_
                refine g_top (y := nI (115 + 24 * pc + 18)) (nI_add (115 + 24 * pc) 18) ?_
                refine lv_iload_n zx zb dX12_undo_147 rfl (lv_at hl 2 rfl) ?_
                refine lv_iadd zx zb dX12_undo_148 ?_
                refine g_top (y := nI (115 + 24 * pc + 18 + t)) (nI_add (115 + 24 * pc + 18) t) ?_
                refine g_ialdN (i := 115 + 24 * pc + 18 + t) XX hP 1 0 rfl rfl (by omega) (by decide) dX12_undo_149 ?_
                refine g_iastN (x := b4 (115 + 24 * pc + 18 + t)) (i := 55 + 7 * t + 6) (blk' := bA Γ (m 1) 259 (upd b4 (55 + 7 * t + 6) (b4 (115 + 24 * pc + 18 + t)))) (bs' := [bMo Γ m M, bA Γ (m 1) 259 (upd b4 (55 + 7 * t + 6) (b4 (115 + 24 * pc + 18 + t)))]) XX hP hD hS 1 0 rfl rfl (by omega) (by decide) rfl rfl dX12_undo_150 (fun H locs hP hD hS => ?_)
                refine lv_iinc (v := nI (t + 1)) (lv' := [(2, .int (nI (t + 1))), (0, .ref (m 0)), (1, .int (nI (115 + 24 * pc)))]) zx zb dX12_undo_151 hl (k := 2) rfl (nI_inc _ 1) (by decide) rfl (fun ls hl => ?_)
                refine lv_goto (tgt := 123) zx zb dX12_undo_154 (by decide) ?_
                exact ih123 (t + 1) (upd b4 (55 + 7 * t + 6) (b4 (115 + 24 * pc + 18 + t))) (by omega) (und_t hg (by omega)) (by omega) _ _ hP hD hS _ (lv_sub hl [1, 2, 0] rfl)
          exact L123 _ 0 b3 (by omega) (by have e : x1 = 8 := (by omega); subst e; exact hg) (Nat.lt_succ_self _) _ _ hP hD hS _ (lv_sub hl [1, 2, 0] rfl)
        · have c_71 : ¬ (8 ≤ x1) := fun h => c_71 ((nI_leI (a := 8) (b := x1) (by omega) (by omega)).mpr h)
          refine lv_aload_n zx zb dX12_undo_74 rfl (lv_at hl 0 rfl) ?_
          refine g_get (v := .ref (m 1)) XX hP 0 0 rfl rfl rfl iwX12 0 (by decide) fl_X12_7 rfl dX12_undo_75 ?_
          refine lv_iload_n zx zb dX12_undo_78 rfl (lv_at hl 2 rfl) ?_
          refine lv_iconst (v := nI 3) zx zb dX12_undo_79 (by decide) ?_
          refine callR_Si (As := [.int (nI x1), .int (nI 3)]) (rest := [.ref (m 1)]) XX cs_X12_73 (c_X12_at Γ l x1 3 ) hP hD hS hA nil_mem nil_D rfl hl.1 rfl ⟨⟨by decide, by decide⟩, by decide, by decide⟩ (Nat.le_of_ble_eq_true rfl) dX12_undo_80 (fun r_80 H locs hw hP hS => ?_)
          have hw := hw.symm
          subst hw
          refine lv_aload_n zx zb dX12_undo_83 rfl (lv_at hl 0 rfl) ?_
          refine g_get (v := .ref (m 1)) XX hP 0 0 rfl rfl rfl iwX12 0 (by decide) fl_X12_7 rfl dX12_undo_84 ?_
          refine lv_iload_n zx zb dX12_undo_87 rfl (lv_at hl 1 rfl) ?_
          refine lv_iconst (v := nI 2) zx zb dX12_undo_88 (by decide) ?_
          refine lv_iadd zx zb dX12_undo_89 ?_
          refine g_top (y := nI (115 + 24 * pc + 2)) (nI_add (115 + 24 * pc) 2) ?_
          refine lv_iload_n zx zb dX12_undo_90 rfl (lv_at hl 2 rfl) ?_
          refine lv_iadd zx zb dX12_undo_91 ?_
          refine g_top (y := nI (115 + 24 * pc + 2 + x1)) (nI_add (115 + 24 * pc + 2) x1) ?_
          refine g_ialdN (i := 115 + 24 * pc + 2 + x1) XX hP 1 0 rfl rfl (by omega) (by decide) dX12_undo_92 ?_
          refine g_iastN (x := b3 (115 + 24 * pc + 2 + x1)) (i := 15 + 5 * x1 + 3) (blk' := bA Γ (m 1) 259 (upd b3 (15 + 5 * x1 + 3) (b3 (115 + 24 * pc + 2 + x1)))) (bs' := [bMo Γ m M, bA Γ (m 1) 259 (upd b3 (15 + 5 * x1 + 3) (b3 (115 + 24 * pc + 2 + x1)))]) XX hP hD hS 1 0 rfl rfl (by omega) (by decide) rfl rfl dX12_undo_93 (fun H locs hP hD hS => ?_)
          refine lv_aload_n zx zb dX12_undo_94 rfl (lv_at hl 0 rfl) ?_
          refine g_get (v := .ref (m 1)) XX hP 0 0 rfl rfl rfl iwX12 0 (by decide) fl_X12_7 rfl dX12_undo_95 ?_
          refine lv_iload_n zx zb dX12_undo_98 rfl (lv_at hl 2 rfl) ?_
          refine lv_iconst (v := nI 4) zx zb dX12_undo_99 (by decide) ?_
          refine callR_Si (As := [.int (nI x1), .int (nI 4)]) (rest := [.ref (m 1)]) XX cs_X12_73 (c_X12_at Γ l x1 4 ) hP hD hS hA nil_mem nil_D rfl hl.1 rfl ⟨⟨by decide, by decide⟩, by decide, by decide⟩ (Nat.le_of_ble_eq_true rfl) dX12_undo_100 (fun r_100 H locs hw hP hS => ?_)
          have hw := hw.symm
          subst hw
          refine lv_aload_n zx zb dX12_undo_103 rfl (lv_at hl 0 rfl) ?_
          refine g_get (v := .ref (m 1)) XX hP 0 0 rfl rfl rfl iwX12 0 (by decide) fl_X12_7 rfl dX12_undo_104 ?_
          refine lv_iload_n zx zb dX12_undo_107 rfl (lv_at hl 1 rfl) ?_
          refine lv_bipush (v := nI 10) zx zb dX12_undo_108 (by decide) ?_
          refine lv_iadd zx zb dX12_undo_110 ?_
          refine g_top (y := nI (115 + 24 * pc + 10)) (nI_add (115 + 24 * pc) 10) ?_
          refine lv_iload_n zx zb dX12_undo_111 rfl (lv_at hl 2 rfl) ?_
          refine lv_iadd zx zb dX12_undo_112 ?_
          refine g_top (y := nI (115 + 24 * pc + 10 + x1)) (nI_add (115 + 24 * pc + 10) x1) ?_
          refine g_ialdN (i := 115 + 24 * pc + 10 + x1) XX hP 1 0 rfl rfl (by omega) (by decide) dX12_undo_113 ?_
          refine g_iastN (x := (upd b3 (15 + 5 * x1 + 3) (b3 (115 + 24 * pc + 2 + x1))) (115 + 24 * pc + 10 + x1)) (i := 15 + 5 * x1 + 4) (blk' := bA Γ (m 1) 259 (upd (upd b3 (15 + 5 * x1 + 3) (b3 (115 + 24 * pc + 2 + x1))) (15 + 5 * x1 + 4) ((upd b3 (15 + 5 * x1 + 3) (b3 (115 + 24 * pc + 2 + x1))) (115 + 24 * pc + 10 + x1)))) (bs' := [bMo Γ m M, bA Γ (m 1) 259 (upd (upd b3 (15 + 5 * x1 + 3) (b3 (115 + 24 * pc + 2 + x1))) (15 + 5 * x1 + 4) ((upd b3 (15 + 5 * x1 + 3) (b3 (115 + 24 * pc + 2 + x1))) (115 + 24 * pc + 10 + x1)))]) XX hP hD hS 1 0 rfl rfl (by omega) (by decide) rfl rfl dX12_undo_114 (fun H locs hP hD hS => ?_)
          refine lv_iinc (v := nI (x1 + 1)) (lv' := [(2, .int (nI (x1 + 1))), (0, .ref (m 0)), (1, .int (nI (115 + 24 * pc)))]) zx zb dX12_undo_115 hl (k := 2) rfl (nI_inc _ 1) (by decide) rfl (fun ls hl => ?_)
          refine lv_goto (tgt := 68) zx zb dX12_undo_118 (by decide) ?_
          exact ih68 (x1 + 1) (upd (upd b3 (15 + 5 * x1 + 3) (b3 (115 + 24 * pc + 2 + x1))) (15 + 5 * x1 + 4) ((upd b3 (15 + 5 * x1 + 3) (b3 (115 + 24 * pc + 2 + x1))) (115 + 24 * pc + 10 + x1))) (by omega) (und_x hg (by omega)) (by omega) _ _ hP hD hS _ (lv_sub hl [1, 2, 0] rfl)
    exact L68 _ 0 (upd (upd (upd b 6 (nI pc)) 1 ((upd b 6 (nI pc)) (115 + (24 * pc)))) 2 ((upd (upd b 6 (nI pc)) 1 ((upd b 6 (nI pc)) (115 + (24 * pc)))) (115 + (24 * pc) + 1))) (by omega) (und_0) (Nat.lt_succ_self _) _ _ hP hD hS _ (lv_sub hl [2, 1, 0] rfl)
  · have c_7 : pc + 1 = 0 := (nI_eq (a := pc + 1) (b := 0) (by omega) (by omega)).mp c_7
    exact absurd c_7 (by omega)
