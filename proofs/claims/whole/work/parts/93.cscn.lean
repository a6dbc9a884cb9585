theorem cs_X12_140 : CWS RX12 140 yX12_verbOf cX12_verbOf 4 (some (.int)) 1 := ⟨cd_X12_verbOf, st_X12_verbOf, in_X12, ml_X12_140, by decide +kernel⟩
theorem cv_X12_126 : CWV RX12 126 RX12 yX12_isAt cX12_isAt 3 (some (.boolean)) 2 := ⟨cd_X12_isAt, im_X12_isAt, se_X12_X12_isAt_X12_isAt, in_X12, ml_X12_126, by decide +kernel⟩
set_option maxHeartbeats 4000000 in
set_option maxRecDepth 100000 in
theorem c_X12_isAt (Γ : GG) (l : Launch) (m : Nat → Nat) (M : MoV) (g : Nat → Int32) (lo : Int32) (hi : Int32) (hl0 : M.2.1 ≤ 150) (hp1 : M.2.2.1 ≤ 150) : Ci Γ l yX12_isAt cX12_isAt 3 (some (.boolean)) 1 25 0 0 [.ref (m 0), .int lo, .int hi] [bMo Γ m M, bA Γ (m 7) 150 g] (fun (r : Int32) (u : Unit) => r = bI (atB M g lo hi)) (fun (u : Unit) => [bMo Γ m M, bA Γ (m 7) 150 g]) := by
  refine Ci.of (Or.inr rfl) (by decide) (Nat.le_of_ble_eq_true rfl) ?_
  intro pp ee ss mm bb me cd AA QQ XX hnm hA hP hD fin ls hl
  obtain ⟨zx, zb, hml, hown, hts, hK⟩ := id XX
  have hS : va_S AA ss.heap ss.heap [] := va_S.rf
  have hl : lv_has ls 3 [(0, .ref (m 0)), (1, .int lo), (2, .int hi)] := hl
  refine lv_aload_n zx zb dX12_isAt_0 rfl (lv_at hl 0 rfl) ?_
  refine g_get (v := .int (nI (M.2.2.1))) XX hP 0 0 rfl rfl rfl iwX12 9 (by decide) fl_X12_111 rfl dX12_isAt_1 ?_
  refine lv_aload_n zx zb dX12_isAt_4 rfl (lv_at hl 0 rfl) ?_
  refine g_get (v := .int (nI (M.2.1))) XX hP 0 0 rfl rfl rfl iwX12 8 (by decide) fl_X12_107 rfl dX12_isAt_5 ?_
  refine lv_icmp_ge (tgt := 35) zx zb dX12_isAt_8 (by decide) (fun c_8 => ?_) (fun c_8 => ?_)
  · have c_8 : M.2.1 ≤ M.2.2.1 := (nI_leI (a := M.2.1) (b := M.2.2.1) (by omega) (by omega)).mp c_8
    refine lv_iconst (v := nI 0) zx zb dX12_isAt_35 (by decide) ?_
    exact fin _ _ (nI 0) () 36 _ dX12_isAt_36 (fun _ => nar0) (by first | exact retT (by unfold atB; first | (rw [c_28, decide_eq_true (show M.2.2.1 < M.2.1 by omega)]; rfl) | (rw [decide_eq_false (show ¬ M.2.2.1 < M.2.1 by omega)]; rfl)) | exact retF (by unfold atB; first | (rw [c_28, decide_eq_true (show M.2.2.1 < M.2.1 by omega)]; rfl) | (rw [decide_eq_false (show ¬ M.2.2.1 < M.2.1 by omega)]; rfl))) hP hD hS
  · have c_8 : ¬ (M.2.1 ≤ M.2.2.1) := fun h => c_8 ((nI_leI (a := M.2.1) (b := M.2.2.1) (by omega) (by omega)).mpr h)
    refine lv_aload_n zx zb dX12_isAt_11 rfl (lv_at hl 0 rfl) ?_
    refine g_get (v := .ref (m 7)) XX hP 0 0 rfl rfl rfl iwX12 7 (by decide) fl_X12_29 rfl dX12_isAt_12 ?_
    refine lv_aload_n zx zb dX12_isAt_15 rfl (lv_at hl 0 rfl) ?_
    refine g_get (v := .int (nI (M.2.2.1))) XX hP 0 0 rfl rfl rfl iwX12 9 (by decide) fl_X12_111 rfl dX12_isAt_16 ?_
    refine g_ialdN (i := M.2.2.1) XX hP 1 0 rfl rfl (by omega) (by decide) dX12_isAt_19 ?_
    refine lv_i2l (v := (g M.2.2.1).toInt64) zx zb dX12_isAt_20 rfl ?_
    refine lv_iload_n zx zb dX12_isAt_21 rfl (lv_at hl 1 rfl) ?_
    refine lv_i2l (v := lo.toInt64) zx zb dX12_isAt_22 rfl ?_
    refine lv_iload_n zx zb dX12_isAt_23 rfl (lv_at hl 2 rfl) ?_
    refine lv_i2l (v := hi.toInt64) zx zb dX12_isAt_24 rfl ?_
    refine callR_Si (As := [.long ((g M.2.2.1).toInt64), .long lo.toInt64, .long hi.toInt64]) (rest := []) XX cs_X12_53 (c_X12_in Γ l (g M.2.2.1) lo hi ) hP hD hS hA nil_mem nil_D rfl hl.1 rfl ⟨⟨by decide, by decide⟩, by decide, by decide⟩ (Nat.le_of_ble_eq_true rfl) dX12_isAt_25 (fun r_25 H locs hw hP hS => ?_)
    have hw := hw.symm
    subst hw
    refine lv_if_eq (tgt := 35) zx zb dX12_isAt_28 (by decide) (fun c_28 => ?_) (fun c_28 => ?_)
    · have c_28 : (wi (g M.2.2.1) lo hi) = false := bI_0.mp c_28
      refine lv_iconst (v := nI 0) zx zb dX12_isAt_35 (by decide) ?_
      exact fin _ _ (nI 0) () 36 _ dX12_isAt_36 (fun _ => nar0) (by first | exact retT (by unfold atB; first | (rw [c_28, decide_eq_true (show M.2.2.1 < M.2.1 by omega)]; rfl) | (rw [decide_eq_false (show ¬ M.2.2.1 < M.2.1 by omega)]; rfl)) | exact retF (by unfold atB; first | (rw [c_28, decide_eq_true (show M.2.2.1 < M.2.1 by omega)]; rfl) | (rw [decide_eq_false (show ¬ M.2.2.1 < M.2.1 by omega)]; rfl))) hP hD hS
    · have c_28 : (wi (g M.2.2.1) lo hi) = true := bI_ne c_28
      refine lv_iconst (v := nI 1) zx zb dX12_isAt_31 (by decide) ?_
      refine lv_goto (tgt := 36) zx zb dX12_isAt_32 (by decide) ?_
      exact fin _ _ (nI 1) () 36 _ dX12_isAt_36 (fun _ => nar1) (by first | exact retT (by unfold atB; first | (rw [c_28, decide_eq_true (show M.2.2.1 < M.2.1 by omega)]; rfl) | (rw [decide_eq_false (show ¬ M.2.2.1 < M.2.1 by omega)]; rfl)) | exact retF (by unfold atB; first | (rw [c_28, decide_eq_true (show M.2.2.1 < M.2.1 by omega)]; rfl) | (rw [decide_eq_false (show ¬ M.2.2.1 < M.2.1 by omega)]; rfl))) hP hD hS

set_option maxHeartbeats 4000000 in
set_option maxRecDepth 100000 in
theorem c_X12_verbOf (Γ : GG) (l : Launch) (h : Int64)  : Ci Γ l yX12_verbOf cX12_verbOf 4 (some (.int)) 0 0 0 0 [.long h] [] (fun (r : Int32) (u : Unit) => r = vbI h) (fun (u : Unit) => []) := by
  refine Ci.of (Or.inl rfl) (by decide) (Nat.le_of_ble_eq_true rfl) ?_
  intro pp ee ss mm bb me cd AA QQ XX hnm hA hP hD fin ls hl
  obtain ⟨zx, zb, hml, hown, hts, hK⟩ := id XX
  have hS : va_S AA ss.heap ss.heap [] := va_S.rf
  have hl : lv_has ls 4 [(0, .long h)] := hl
  refine lv_lload_n zx zb dX12_verbOf_0 rfl (lv_at hl 0 rfl) ?_
  refine lv_ldc2 zx zb hown (hts _ kl_X12_114) dX12_verbOf_1 ?_
  refine W.lcmp zx zb dX12_verbOf_4 ?_
  refine lv_if_ne (tgt := 12) zx zb dX12_verbOf_5 (by decide) (fun c_5 => ?_) (fun c_5 => ?_)
  · have c_5 : ¬ ((lg_cmp h (3638900 : Int64)) = (0 : Int32)) := c_5
    refine lv_lload_n zx zb dX12_verbOf_12 rfl (lv_at hl 0 rfl) ?_
    refine lv_ldc2 zx zb hown (hts _ kl_X12_116) dX12_verbOf_13 ?_
    refine W.lcmp zx zb dX12_verbOf_16 ?_
    refine lv_if_ne (tgt := 24) zx zb dX12_verbOf_17 (by decide) (fun c_17 => ?_) (fun c_17 => ?_)
    · have c_17 : ¬ ((lg_cmp h (103820 : Int64)) = (0 : Int32)) := c_17
      refine lv_lload_n zx zb dX12_verbOf_24 rfl (lv_at hl 0 rfl) ?_
      refine lv_ldc2 zx zb hown (hts _ kl_X12_118) dX12_verbOf_25 ?_
      refine W.lcmp zx zb dX12_verbOf_28 ?_
      refine lv_if_ne (tgt := 36) zx zb dX12_verbOf_29 (by decide) (fun c_29 => ?_) (fun c_29 => ?_)
      · have c_29 : ¬ ((lg_cmp h (140645 : Int64)) = (0 : Int32)) := c_29
        refine lv_iconst (v := (-1)) zx zb dX12_verbOf_36 (by decide) ?_
        refine lv_istore_n (lv' := [(2, .int (-1)), (0, .long h)]) zx zb dX12_verbOf_37 rfl hl (by decide) rfl (fun ls hl => ?_)
        refine lv_lload_n zx zb dX12_verbOf_38 rfl (lv_at hl 1 rfl) ?_
        refine lv_ldc2 zx zb hown (hts _ kl_X12_120) dX12_verbOf_39 ?_
        refine W.lcmp zx zb dX12_verbOf_42 ?_
        refine lv_if_ne (tgt := 50) zx zb dX12_verbOf_43 (by decide) (fun c_43 => ?_) (fun c_43 => ?_)
        · have c_43 : ¬ ((lg_cmp h (755156 : Int64)) = (0 : Int32)) := c_43
          refine lv_lload_n zx zb dX12_verbOf_50 rfl (lv_at hl 1 rfl) ?_
          refine lv_ldc2 zx zb hown (hts _ kl_X12_122) dX12_verbOf_51 ?_
          refine W.lcmp zx zb dX12_verbOf_54 ?_
          refine lv_if_ne (tgt := 62) zx zb dX12_verbOf_55 (by decide) (fun c_55 => ?_) (fun c_55 => ?_)
          · have c_55 : ¬ ((lg_cmp h (441838 : Int64)) = (0 : Int32)) := c_55
            refine lv_lload_n zx zb dX12_verbOf_62 rfl (lv_at hl 1 rfl) ?_
            refine lv_ldc2 zx zb hown (hts _ kl_X12_124) dX12_verbOf_63 ?_
            refine W.lcmp zx zb dX12_verbOf_66 ?_
            refine lv_if_ne (tgt := 74) zx zb dX12_verbOf_67 (by decide) (fun c_67 => ?_) (fun c_67 => ?_)
            · have c_67 : ¬ ((lg_cmp h (690128537 : Int64)) = (0 : Int32)) := c_67
              refine lv_iconst (v := (-1)) zx zb dX12_verbOf_74 (by decide) ?_
              refine lv_istore_n (lv' := [(3, .int (-1)), (2, .int (-1)), (0, .long h)]) zx zb dX12_verbOf_75 rfl hl (by decide) rfl (fun ls hl => ?_)
              refine lv_iload_n zx zb dX12_verbOf_76 rfl (lv_at hl 1 rfl) ?_
              refine lv_iconst (v := (-1)) zx zb dX12_verbOf_77 (by decide) ?_
              refine lv_icmp_eq (tgt := 85) zx zb dX12_verbOf_78 (by decide) (fun c_78 => ?_) (fun c_78 => ?_)
              · have c_78 : ((-1) : Int32) = (-1) := c_78
                refine lv_iload_n zx zb dX12_verbOf_85 rfl (lv_at hl 0 rfl) ?_
                exact fin _ _ (-1) () 86 _ dX12_verbOf_86 (fun h => by cases h) (by first | exact absurd c_78 (by decide) | exact absurd rfl c_78 | (unfold vbI; simp only [c_5, c_17, c_29, c_43, c_55, c_67, c_78, if_true, if_false]; first | done | rfl) | (unfold vbI; simp [c_5, c_17, c_29, c_43, c_55, c_67, c_78]; first | done | rfl)) hP hD hS
              · have c_78 : ¬ (((-1) : Int32) = (-1)) := c_78
                refine lv_iload_n zx zb dX12_verbOf_81 rfl (lv_at hl 1 rfl) ?_
                refine lv_goto (tgt := 86) zx zb dX12_verbOf_82 (by decide) ?_
                exact fin _ _ (-1) () 86 _ dX12_verbOf_86 (fun h => by cases h) (by first | exact absurd c_78 (by decide) | exact absurd rfl c_78 | (unfold vbI; simp only [c_5, c_17, c_29, c_43, c_55, c_67, c_78, if_true, if_false]; first | done | rfl) | (unfold vbI; simp [c_5, c_17, c_29, c_43, c_55, c_67, c_78]; first | done | rfl)) hP hD hS
            · have c_67 : (lg_cmp h (690128537 : Int64)) = (0 : Int32) := c_67
              refine lv_iconst (v := nI 5) zx zb dX12_verbOf_70 (by decide) ?_
              refine lv_goto (tgt := 75) zx zb dX12_verbOf_71 (by decide) ?_
              refine lv_istore_n (lv' := [(3, .int (nI 5)), (2, .int (-1)), (0, .long h)]) zx zb dX12_verbOf_75 rfl hl (by decide) rfl (fun ls hl => ?_)
              refine lv_iload_n zx zb dX12_verbOf_76 rfl (lv_at hl 1 rfl) ?_
              refine lv_iconst (v := (-1)) zx zb dX12_verbOf_77 (by decide) ?_
              refine lv_icmp_eq (tgt := 85) zx zb dX12_verbOf_78 (by decide) (fun c_78 => ?_) (fun c_78 => ?_)
              · have c_78 : ((-1) : Int32) = (-1) := c_78
                refine lv_iload_n zx zb dX12_verbOf_85 rfl (lv_at hl 0 rfl) ?_
                exact fin _ _ (nI 5) () 86 _ dX12_verbOf_86 (fun h => by cases h) (by first | exact absurd c_78 (by decide) | exact absurd rfl c_78 | (unfold vbI; simp only [c_5, c_17, c_29, c_43, c_55, c_67, c_78, if_true, if_false]; first | done | rfl) | (unfold vbI; simp [c_5, c_17, c_29, c_43, c_55, c_67, c_78]; first | done | rfl)) hP hD hS
              · have c_78 : ¬ (((-1) : Int32) = (-1)) := c_78
                refine lv_iload_n zx zb dX12_verbOf_81 rfl (lv_at hl 1 rfl) ?_
                refine lv_goto (tgt := 86) zx zb dX12_verbOf_82 (by decide) ?_
                exact fin _ _ (-1) () 86 _ dX12_verbOf_86 (fun h => by cases h) (by first | exact absurd c_78 (by decide) | exact absurd rfl c_78 | (unfold vbI; simp only [c_5, c_17, c_29, c_43, c_55, c_67, c_78, if_true, if_false]; first | done | rfl) | (unfold vbI; simp [c_5, c_17, c_29, c_43, c_55, c_67, c_78]; first | done | rfl)) hP hD hS
          · have c_55 : (lg_cmp h (441838 : Int64)) = (0 : Int32) := c_55
            refine lv_iconst (v := nI 4) zx zb dX12_verbOf_58 (by decide) ?_
            refine lv_goto (tgt := 75) zx zb dX12_verbOf_59 (by decide) ?_
            refine lv_istore_n (lv' := [(3, .int (nI 4)), (2, .int (-1)), (0, .long h)]) zx zb dX12_verbOf_75 rfl hl (by decide) rfl (fun ls hl => ?_)
            refine lv_iload_n zx zb dX12_verbOf_76 rfl (lv_at hl 1 rfl) ?_
            refine lv_iconst (v := (-1)) zx zb dX12_verbOf_77 (by decide) ?_
            refine lv_icmp_eq (tgt := 85) zx zb dX12_verbOf_78 (by decide) (fun c_78 => ?_) (fun c_78 => ?_)
            · have c_78 : ((-1) : Int32) = (-1) := c_78
              refine lv_iload_n zx zb dX12_verbOf_85 rfl (lv_at hl 0 rfl) ?_
              exact fin _ _ (nI 4) () 86 _ dX12_verbOf_86 (fun h => by cases h) (by first | exact absurd c_78 (by decide) | exact absurd rfl c_78 | (unfold vbI; simp only [c_5, c_17, c_29, c_43, c_55, c_78, if_true, if_false]; first | done | rfl) | (unfold vbI; simp [c_5, c_17, c_29, c_43, c_55, c_78]; first | done | rfl)) hP hD hS
            · have c_78 : ¬ (((-1) : Int32) = (-1)) := c_78
              refine lv_iload_n zx zb dX12_verbOf_81 rfl (lv_at hl 1 rfl) ?_
              refine lv_goto (tgt := 86) zx zb dX12_verbOf_82 (by decide) ?_
              exact fin _ _ (-1) () 86 _ dX12_verbOf_86 (fun h => by cases h) (by first | exact absurd c_78 (by decide) | exact absurd rfl c_78 | (unfold vbI; simp only [c_5, c_17, c_29, c_43, c_55, c_78, if_true, if_false]; first | done | rfl) | (unfold vbI; simp [c_5, c_17, c_29, c_43, c_55, c_78]; first | done | rfl)) hP hD hS
        · have c_43 : (lg_cmp h (755156 : Int64)) = (0 : Int32) := c_43
          refine lv_iconst (v := nI 3) zx zb dX12_verbOf_46 (by decide) ?_
          refine lv_goto (tgt := 75) zx zb dX12_verbOf_47 (by decide) ?_
          refine lv_istore_n (lv' := [(3, .int (nI 3)), (2, .int (-1)), (0, .long h)]) zx zb dX12_verbOf_75 rfl hl (by decide) rfl (fun ls hl => ?_)
          refine lv_iload_n zx zb dX12_verbOf_76 rfl (lv_at hl 1 rfl) ?_
          refine lv_iconst (v := (-1)) zx zb dX12_verbOf_77 (by decide) ?_
          refine lv_icmp_eq (tgt := 85) zx zb dX12_verbOf_78 (by decide) (fun c_78 => ?_) (fun c_78 => ?_)
          · have c_78 : ((-1) : Int32) = (-1) := c_78
            refine lv_iload_n zx zb dX12_verbOf_85 rfl (lv_at hl 0 rfl) ?_
            exact fin _ _ (nI 3) () 86 _ dX12_verbOf_86 (fun h => by cases h) (by first | exact absurd c_78 (by decide) | exact absurd rfl c_78 | (unfold vbI; simp only [c_5, c_17, c_29, c_43, c_78, if_true, if_false]; first | done | rfl) | (unfold vbI; simp [c_5, c_17, c_29, c_43, c_78]; first | done | rfl)) hP hD hS
          · have c_78 : ¬ (((-1) : Int32) = (-1)) := c_78
            refine lv_iload_n zx zb dX12_verbOf_81 rfl (lv_at hl 1 rfl) ?_
            refine lv_goto (tgt := 86) zx zb dX12_verbOf_82 (by decide) ?_
            exact fin _ _ (-1) () 86 _ dX12_verbOf_86 (fun h => by cases h) (by first | exact absurd c_78 (by decide) | exact absurd rfl c_78 | (unfold vbI; simp only [c_5, c_17, c_29, c_43, c_78, if_true, if_false]; first | done | rfl) | (unfold vbI; simp [c_5, c_17, c_29, c_43, c_78]; first | done | rfl)) hP hD hS
      · have c_29 : (lg_cmp h (140645 : Int64)) = (0 : Int32) := c_29
        refine lv_iconst (v := nI 2) zx zb dX12_verbOf_32 (by decide) ?_
        refine lv_goto (tgt := 37) zx zb dX12_verbOf_33 (by decide) ?_
        refine lv_istore_n (lv' := [(2, .int (nI 2)), (0, .long h)]) zx zb dX12_verbOf_37 rfl hl (by decide) rfl (fun ls hl => ?_)
        refine lv_lload_n zx zb dX12_verbOf_38 rfl (lv_at hl 1 rfl) ?_
        refine lv_ldc2 zx zb hown (hts _ kl_X12_120) dX12_verbOf_39 ?_
        refine W.lcmp zx zb dX12_verbOf_42 ?_
        refine lv_if_ne (tgt := 50) zx zb dX12_verbOf_43 (by decide) (fun c_43 => ?_) (fun c_43 => ?_)
        · have c_43 : ¬ ((lg_cmp h (755156 : Int64)) = (0 : Int32)) := c_43
          refine lv_lload_n zx zb dX12_verbOf_50 rfl (lv_at hl 1 rfl) ?_
          refine lv_ldc2 zx zb hown (hts _ kl_X12_122) dX12_verbOf_51 ?_
          refine W.lcmp zx zb dX12_verbOf_54 ?_
          refine lv_if_ne (tgt := 62) zx zb dX12_verbOf_55 (by decide) (fun c_55 => ?_) (fun c_55 => ?_)
          · have c_55 : ¬ ((lg_cmp h (441838 : Int64)) = (0 : Int32)) := c_55
            refine lv_lload_n zx zb dX12_verbOf_62 rfl (lv_at hl 1 rfl) ?_
            refine lv_ldc2 zx zb hown (hts _ kl_X12_124) dX12_verbOf_63 ?_
            refine W.lcmp zx zb dX12_verbOf_66 ?_
            refine lv_if_ne (tgt := 74) zx zb dX12_verbOf_67 (by decide) (fun c_67 => ?_) (fun c_67 => ?_)
            · have c_67 : ¬ ((lg_cmp h (690128537 : Int64)) = (0 : Int32)) := c_67
              refine lv_iconst (v := (-1)) zx zb dX12_verbOf_74 (by decide) ?_
              refine lv_istore_n (lv' := [(3, .int (-1)), (2, .int (nI 2)), (0, .long h)]) zx zb dX12_verbOf_75 rfl hl (by decide) rfl (fun ls hl => ?_)
              refine lv_iload_n zx zb dX12_verbOf_76 rfl (lv_at hl 1 rfl) ?_
              refine lv_iconst (v := (-1)) zx zb dX12_verbOf_77 (by decide) ?_
              refine lv_icmp_eq (tgt := 85) zx zb dX12_verbOf_78 (by decide) (fun c_78 => ?_) (fun c_78 => ?_)
              · have c_78 : (2 : Int32) = (-1) := c_78
                refine lv_iload_n zx zb dX12_verbOf_85 rfl (lv_at hl 0 rfl) ?_
                exact fin _ _ (-1) () 86 _ dX12_verbOf_86 (fun h => by cases h) (by first | exact absurd c_78 (by decide) | exact absurd rfl c_78 | (unfold vbI; simp only [c_5, c_17, c_29, c_43, c_55, c_67, c_78, if_true, if_false]; first | done | rfl) | (unfold vbI; simp [c_5, c_17, c_29, c_43, c_55, c_67, c_78]; first | done | rfl)) hP hD hS
              · have c_78 : ¬ ((2 : Int32) = (-1)) := c_78
                refine lv_iload_n zx zb dX12_verbOf_81 rfl (lv_at hl 1 rfl) ?_
                refine lv_goto (tgt := 86) zx zb dX12_verbOf_82 (by decide) ?_
                exact fin _ _ (nI 2) () 86 _ dX12_verbOf_86 (fun h => by cases h) (by first | exact absurd c_78 (by decide) | exact absurd rfl c_78 | (unfold vbI; simp only [c_5, c_17, c_29, c_43, c_55, c_67, c_78, if_true, if_false]; first | done | rfl) | (unfold vbI; simp [c_5, c_17, c_29, c_43, c_55, c_67, c_78]; first | done | rfl)) hP hD hS
            · have c_67 : (lg_cmp h (690128537 : Int64)) = (0 : Int32) := c_67
              refine lv_iconst (v := nI 5) zx zb dX12_verbOf_70 (by decide) ?_
              refine lv_goto (tgt := 75) zx zb dX12_verbOf_71 (by decide) ?_
              refine lv_istore_n (lv' := [(3, .int (nI 5)), (2, .int (nI 2)), (0, .long h)]) zx zb dX12_verbOf_75 rfl hl (by decide) rfl (fun ls hl => ?_)
              refine lv_iload_n zx zb dX12_verbOf_76 rfl (lv_at hl 1 rfl) ?_
              refine lv_iconst (v := (-1)) zx zb dX12_verbOf_77 (by decide) ?_
              refine lv_icmp_eq (tgt := 85) zx zb dX12_verbOf_78 (by decide) (fun c_78 => ?_) (fun c_78 => ?_)
              · have c_78 : (2 : Int32) = (-1) := c_78
                refine lv_iload_n zx zb dX12_verbOf_85 rfl (lv_at hl 0 rfl) ?_
                exact fin _ _ (nI 5) () 86 _ dX12_verbOf_86 (fun h => by cases h) (by first | exact absurd c_78 (by decide) | exact absurd rfl c_78 | (unfold vbI; simp only [c_5, c_17, c_29, c_43, c_55, c_67, c_78, if_true, if_false]; first | done | rfl) | (unfold vbI; simp [c_5, c_17, c_29, c_43, c_55, c_67, c_78]; first | done | rfl)) hP hD hS
              · have c_78 : ¬ ((2 : Int32) = (-1)) := c_78
                refine lv_iload_n zx zb dX12_verbOf_81 rfl (lv_at hl 1 rfl) ?_
                refine lv_goto (tgt := 86) zx zb dX12_verbOf_82 (by decide) ?_
                exact fin _ _ (nI 2) () 86 _ dX12_verbOf_86 (fun h => by cases h) (by first | exact absurd c_78 (by decide) | exact absurd rfl c_78 | (unfold vbI; simp only [c_5, c_17, c_29, c_43, c_55, c_67, c_78, if_true, if_false]; first | done | rfl) | (unfold vbI; simp [c_5, c_17, c_29, c_43, c_55, c_67, c_78]; first | done | rfl)) hP hD hS
          · have c_55 : (lg_cmp h (441838 : Int64)) = (0 : Int32) := c_55
            refine lv_iconst (v := nI 4) zx zb dX12_verbOf_58 (by decide) ?_
            refine lv_goto (tgt := 75) zx zb dX12_verbOf_59 (by decide) ?_
            refine lv_istore_n (lv' := [(3, .int (nI 4)), (2, .int (nI 2)), (0, .long h)]) zx zb dX12_verbOf_75 rfl hl (by decide) rfl (fun ls hl => ?_)
            refine lv_iload_n zx zb dX12_verbOf_76 rfl (lv_at hl 1 rfl) ?_
            refine lv_iconst (v := (-1)) zx zb dX12_verbOf_77 (by decide) ?_
            refine lv_icmp_eq (tgt := 85) zx zb dX12_verbOf_78 (by decide) (fun c_78 => ?_) (fun c_78 => ?_)
            · have c_78 : (2 : Int32) = (-1) := c_78
              refine lv_iload_n zx zb dX12_verbOf_85 rfl (lv_at hl 0 rfl) ?_
              exact fin _ _ (nI 4) () 86 _ dX12_verbOf_86 (fun h => by cases h) (by first | exact absurd c_78 (by decide) | exact absurd rfl c_78 | (unfold vbI; simp only [c_5, c_17, c_29, c_43, c_55, c_78, if_true, if_false]; first | done | rfl) | (unfold vbI; simp [c_5, c_17, c_29, c_43, c_55, c_78]; first | done | rfl)) hP hD hS
            · have c_78 : ¬ ((2 : Int32) = (-1)) := c_78
              refine lv_iload_n zx zb dX12_verbOf_81 rfl (lv_at hl 1 rfl) ?_
              refine lv_goto (tgt := 86) zx zb dX12_verbOf_82 (by decide) ?_
              exact fin _ _ (nI 2) () 86 _ dX12_verbOf_86 (fun h => by cases h) (by first | exact absurd c_78 (by decide) | exact absurd rfl c_78 | (unfold vbI; simp only [c_5, c_17, c_29, c_43, c_55, c_78, if_true, if_false]; first | done | rfl) | (unfold vbI; simp [c_5, c_17, c_29, c_43, c_55, c_78]; first | done | rfl)) hP hD hS
        · have c_43 : (lg_cmp h (755156 : Int64)) = (0 : Int32) := c_43
          refine lv_iconst (v := nI 3) zx zb dX12_verbOf_46 (by decide) ?_
          refine lv_goto (tgt := 75) zx zb dX12_verbOf_47 (by decide) ?_
          refine lv_istore_n (lv' := [(3, .int (nI 3)), (2, .int (nI 2)), (0, .long h)]) zx zb dX12_verbOf_75 rfl hl (by decide) rfl (fun ls hl => ?_)
          refine lv_iload_n zx zb dX12_verbOf_76 rfl (lv_at hl 1 rfl) ?_
          refine lv_iconst (v := (-1)) zx zb dX12_verbOf_77 (by decide) ?_
          refine lv_icmp_eq (tgt := 85) zx zb dX12_verbOf_78 (by decide) (fun c_78 => ?_) (fun c_78 => ?_)
          · have c_78 : (2 : Int32) = (-1) := c_78
            refine lv_iload_n zx zb dX12_verbOf_85 rfl (lv_at hl 0 rfl) ?_
            exact fin _ _ (nI 3) () 86 _ dX12_verbOf_86 (fun h => by cases h) (by first | exact absurd c_78 (by decide) | exact absurd rfl c_78 | (unfold vbI; simp only [c_5, c_17, c_29, c_43, c_78, if_true, if_false]; first | done | rfl) | (unfold vbI; simp [c_5, c_17, c_29, c_43, c_78]; first | done | rfl)) hP hD hS
          · have c_78 : ¬ ((2 : Int32) = (-1)) := c_78
            refine lv_iload_n zx zb dX12_verbOf_81 rfl (lv_at hl 1 rfl) ?_
            refine lv_goto (tgt := 86) zx zb dX12_verbOf_82 (by decide) ?_
            exact fin _ _ (nI 2) () 86 _ dX12_verbOf_86 (fun h => by cases h) (by first | exact absurd c_78 (by decide) | exact absurd rfl c_78 | (unfold vbI; simp only [c_5, c_17, c_29, c_43, c_78, if_true, if_false]; first | done | rfl) | (unfold vbI; simp [c_5, c_17, c_29, c_43, c_78]; first | done | rfl)) hP hD hS
    · have c_17 : (lg_cmp h (103820 : Int64)) = (0 : Int32) := c_17
      refine lv_iconst (v := nI 1) zx zb dX12_verbOf_20 (by decide) ?_
      refine lv_goto (tgt := 37) zx zb dX12_verbOf_21 (by decide) ?_
      refine lv_istore_n (lv' := [(2, .int (nI 1)), (0, .long h)]) zx zb dX12_verbOf_37 rfl hl (by decide) rfl (fun ls hl => ?_)
      refine lv_lload_n zx zb dX12_verbOf_38 rfl (lv_at hl 1 rfl) ?_
      refine lv_ldc2 zx zb hown (hts _ kl_X12_120) dX12_verbOf_39 ?_
      refine W.lcmp zx zb dX12_verbOf_42 ?_
      refine lv_if_ne (tgt := 50) zx zb dX12_verbOf_43 (by decide) (fun c_43 => ?_) (fun c_43 => ?_)
      · have c_43 : ¬ ((lg_cmp h (755156 : Int64)) = (0 : Int32)) := c_43
        refine lv_lload_n zx zb dX12_verbOf_50 rfl (lv_at hl 1 rfl) ?_
        refine lv_ldc2 zx zb hown (hts _ kl_X12_122) dX12_verbOf_51 ?_
        refine W.lcmp zx zb dX12_verbOf_54 ?_
        refine lv_if_ne (tgt := 62) zx zb dX12_verbOf_55 (by decide) (fun c_55 => ?_) (fun c_55 => ?_)
        · have c_55 : ¬ ((lg_cmp h (441838 : Int64)) = (0 : Int32)) := c_55
          refine lv_lload_n zx zb dX12_verbOf_62 rfl (lv_at hl 1 rfl) ?_
          refine lv_ldc2 zx zb hown (hts _ kl_X12_124) dX12_verbOf_63 ?_
          refine W.lcmp zx zb dX12_verbOf_66 ?_
          refine lv_if_ne (tgt := 74) zx zb dX12_verbOf_67 (by decide) (fun c_67 => ?_) (fun c_67 => ?_)
          · have c_67 : ¬ ((lg_cmp h (690128537 : Int64)) = (0 : Int32)) := c_67
            refine lv_iconst (v := (-1)) zx zb dX12_verbOf_74 (by decide) ?_
            refine lv_istore_n (lv' := [(3, .int (-1)), (2, .int (nI 1)), (0, .long h)]) zx zb dX12_verbOf_75 rfl hl (by decide) rfl (fun ls hl => ?_)
            refine lv_iload_n zx zb dX12_verbOf_76 rfl (lv_at hl 1 rfl) ?_
            refine lv_iconst (v := (-1)) zx zb dX12_verbOf_77 (by decide) ?_
            refine lv_icmp_eq (tgt := 85) zx zb dX12_verbOf_78 (by decide) (fun c_78 => ?_) (fun c_78 => ?_)
            · have c_78 : (1 : Int32) = (-1) := c_78
              refine lv_iload_n zx zb dX12_verbOf_85 rfl (lv_at hl 0 rfl) ?_
              exact fin _ _ (-1) () 86 _ dX12_verbOf_86 (fun h => by cases h) (by first | exact absurd c_78 (by decide) | exact absurd rfl c_78 | (unfold vbI; simp only [c_5, c_17, c_43, c_55, c_67, c_78, if_true, if_false]; first | done | rfl) | (unfold vbI; simp [c_5, c_17, c_43, c_55, c_67, c_78]; first | done | rfl)) hP hD hS
            · have c_78 : ¬ ((1 : Int32) = (-1)) := c_78
              refine lv_iload_n zx zb dX12_verbOf_81 rfl (lv_at hl 1 rfl) ?_
              refine lv_goto (tgt := 86) zx zb dX12_verbOf_82 (by decide) ?_
              exact fin _ _ (nI 1) () 86 _ dX12_verbOf_86 (fun h => by cases h) (by first | exact absurd c_78 (by decide) | exact absurd rfl c_78 | (unfold vbI; simp only [c_5, c_17, c_43, c_55, c_67, c_78, if_true, if_false]; first | done | rfl) | (unfold vbI; simp [c_5, c_17, c_43, c_55, c_67, c_78]; first | done | rfl)) hP hD hS
          · have c_67 : (lg_cmp h (690128537 : Int64)) = (0 : Int32) := c_67
            refine lv_iconst (v := nI 5) zx zb dX12_verbOf_70 (by decide) ?_
            refine lv_goto (tgt := 75) zx zb dX12_verbOf_71 (by decide) ?_
            refine lv_istore_n (lv' := [(3, .int (nI 5)), (2, .int (nI 1)), (0, .long h)]) zx zb dX12_verbOf_75 rfl hl (by decide) rfl (fun ls hl => ?_)
            refine lv_iload_n zx zb dX12_verbOf_76 rfl (lv_at hl 1 rfl) ?_
            refine lv_iconst (v := (-1)) zx zb dX12_verbOf_77 (by decide) ?_
            refine lv_icmp_eq (tgt := 85) zx zb dX12_verbOf_78 (by decide) (fun c_78 => ?_) (fun c_78 => ?_)
            · have c_78 : (1 : Int32) = (-1) := c_78
              refine lv_iload_n zx zb dX12_verbOf_85 rfl (lv_at hl 0 rfl) ?_
              exact fin _ _ (nI 5) () 86 _ dX12_verbOf_86 (fun h => by cases h) (by first | exact absurd c_78 (by decide) | exact absurd rfl c_78 | (unfold vbI; simp only [c_5, c_17, c_43, c_55, c_67, c_78, if_true, if_false]; first | done | rfl) | (unfold vbI; simp [c_5, c_17, c_43, c_55, c_67, c_78]; first | done | rfl)) hP hD hS
            · have c_78 : ¬ ((1 : Int32) = (-1)) := c_78
              refine lv_iload_n zx zb dX12_verbOf_81 rfl (lv_at hl 1 rfl) ?_
              refine lv_goto (tgt := 86) zx zb dX12_verbOf_82 (by decide) ?_
              exact fin _ _ (nI 1) () 86 _ dX12_verbOf_86 (fun h => by cases h) (by first | exact absurd c_78 (by decide) | exact absurd rfl c_78 | (unfold vbI; simp only [c_5, c_17, c_43, c_55, c_67, c_78, if_true, if_false]; first | done | rfl) | (unfold vbI; simp [c_5, c_17, c_43, c_55, c_67, c_78]; first | done | rfl)) hP hD hS
        · have c_55 : (lg_cmp h (441838 : Int64)) = (0 : Int32) := c_55
          refine lv_iconst (v := nI 4) zx zb dX12_verbOf_58 (by decide) ?_
          refine lv_goto (tgt := 75) zx zb dX12_verbOf_59 (by decide) ?_
          refine lv_istore_n (lv' := [(3, .int (nI 4)), (2, .int (nI 1)), (0, .long h)]) zx zb dX12_verbOf_75 rfl hl (by decide) rfl (fun ls hl => ?_)
          refine lv_iload_n zx zb dX12_verbOf_76 rfl (lv_at hl 1 rfl) ?_
          refine lv_iconst (v := (-1)) zx zb dX12_verbOf_77 (by decide) ?_
          refine lv_icmp_eq (tgt := 85) zx zb dX12_verbOf_78 (by decide) (fun c_78 => ?_) (fun c_78 => ?_)
          · have c_78 : (1 : Int32) = (-1) := c_78
            refine lv_iload_n zx zb dX12_verbOf_85 rfl (lv_at hl 0 rfl) ?_
            exact fin _ _ (nI 4) () 86 _ dX12_verbOf_86 (fun h => by cases h) (by first | exact absurd c_78 (by decide) | exact absurd rfl c_78 | (unfold vbI; simp only [c_5, c_17, c_43, c_55, c_78, if_true, if_false]; first | done | rfl) | (unfold vbI; simp [c_5, c_17, c_43, c_55, c_78]; first | done | rfl)) hP hD hS
          · have c_78 : ¬ ((1 : Int32) = (-1)) := c_78
            refine lv_iload_n zx zb dX12_verbOf_81 rfl (lv_at hl 1 rfl) ?_
            refine lv_goto (tgt := 86) zx zb dX12_verbOf_82 (by decide) ?_
            exact fin _ _ (nI 1) () 86 _ dX12_verbOf_86 (fun h => by cases h) (by first | exact absurd c_78 (by decide) | exact absurd rfl c_78 | (unfold vbI; simp only [c_5, c_17, c_43, c_55, c_78, if_true, if_false]; first | done | rfl) | (unfold vbI; simp [c_5, c_17, c_43, c_55, c_78]; first | done | rfl)) hP hD hS
      · have c_43 : (lg_cmp h (755156 : Int64)) = (0 : Int32) := c_43
        refine lv_iconst (v := nI 3) zx zb dX12_verbOf_46 (by decide) ?_
        refine lv_goto (tgt := 75) zx zb dX12_verbOf_47 (by decide) ?_
        refine lv_istore_n (lv' := [(3, .int (nI 3)), (2, .int (nI 1)), (0, .long h)]) zx zb dX12_verbOf_75 rfl hl (by decide) rfl (fun ls hl => ?_)
        refine lv_iload_n zx zb dX12_verbOf_76 rfl (lv_at hl 1 rfl) ?_
        refine lv_iconst (v := (-1)) zx zb dX12_verbOf_77 (by decide) ?_
        refine lv_icmp_eq (tgt := 85) zx zb dX12_verbOf_78 (by decide) (fun c_78 => ?_) (fun c_78 => ?_)
        · have c_78 : (1 : Int32) = (-1) := c_78
          refine lv_iload_n zx zb dX12_verbOf_85 rfl (lv_at hl 0 rfl) ?_
          exact fin _ _ (nI 3) () 86 _ dX12_verbOf_86 (fun h => by cases h) (by first | exact absurd c_78 (by decide) | exact absurd rfl c_78 | (unfold vbI; simp only [c_5, c_17, c_43, c_78, if_true, if_false]; first | done | rfl) | (unfold vbI; simp [c_5, c_17, c_43, c_78]; first | done | rfl)) hP hD hS
        · have c_78 : ¬ ((1 : Int32) = (-1)) := c_78
          refine lv_iload_n zx zb dX12_verbOf_81 rfl (lv_at hl 1 rfl) ?_
          refine lv_goto (tgt := 86) zx zb dX12_verbOf_82 (by decide) ?_
          exact fin _ _ (nI 1) () 86 _ dX12_verbOf_86 (fun h => by cases h) (by first | exact absurd c_78 (by decide) | exact absurd rfl c_78 | (unfold vbI; simp only [c_5, c_17, c_43, c_78, if_true, if_false]; first | done | rfl) | (unfold vbI; simp [c_5, c_17, c_43, c_78]; first | done | rfl)) hP hD hS
  · have c_5 : (lg_cmp h (3638900 : Int64)) = (0 : Int32) := c_5
    refine lv_iconst (v := nI 0) zx zb dX12_verbOf_8 (by decide) ?_
    refine lv_goto (tgt := 37) zx zb dX12_verbOf_9 (by decide) ?_
    refine lv_istore_n (lv' := [(2, .int (nI 0)), (0, .long h)]) zx zb dX12_verbOf_37 rfl hl (by decide) rfl (fun ls hl => ?_)
    refine lv_lload_n zx zb dX12_verbOf_38 rfl (lv_at hl 1 rfl) ?_
    refine lv_ldc2 zx zb hown (hts _ kl_X12_120) dX12_verbOf_39 ?_
    refine W.lcmp zx zb dX12_verbOf_42 ?_
    refine lv_if_ne (tgt := 50) zx zb dX12_verbOf_43 (by decide) (fun c_43 => ?_) (fun c_43 => ?_)
    · have c_43 : ¬ ((lg_cmp h (755156 : Int64)) = (0 : Int32)) := c_43
      refine lv_lload_n zx zb dX12_verbOf_50 rfl (lv_at hl 1 rfl) ?_
      refine lv_ldc2 zx zb hown (hts _ kl_X12_122) dX12_verbOf_51 ?_
      refine W.lcmp zx zb dX12_verbOf_54 ?_
      refine lv_if_ne (tgt := 62) zx zb dX12_verbOf_55 (by decide) (fun c_55 => ?_) (fun c_55 => ?_)
      · have c_55 : ¬ ((lg_cmp h (441838 : Int64)) = (0 : Int32)) := c_55
        refine lv_lload_n zx zb dX12_verbOf_62 rfl (lv_at hl 1 rfl) ?_
        refine lv_ldc2 zx zb hown (hts _ kl_X12_124) dX12_verbOf_63 ?_
        refine W.lcmp zx zb dX12_verbOf_66 ?_
        refine lv_if_ne (tgt := 74) zx zb dX12_verbOf_67 (by decide) (fun c_67 => ?_) (fun c_67 => ?_)
        · have c_67 : ¬ ((lg_cmp h (690128537 : Int64)) = (0 : Int32)) := c_67
          refine lv_iconst (v := (-1)) zx zb dX12_verbOf_74 (by decide) ?_
          refine lv_istore_n (lv' := [(3, .int (-1)), (2, .int (nI 0)), (0, .long h)]) zx zb dX12_verbOf_75 rfl hl (by decide) rfl (fun ls hl => ?_)
          refine lv_iload_n zx zb dX12_verbOf_76 rfl (lv_at hl 1 rfl) ?_
          refine lv_iconst (v := (-1)) zx zb dX12_verbOf_77 (by decide) ?_
          refine lv_icmp_eq (tgt := 85) zx zb dX12_verbOf_78 (by decide) (fun c_78 => ?_) (fun c_78 => ?_)
          · have c_78 : (0 : Int32) = (-1) := c_78
            refine lv_iload_n zx zb dX12_verbOf_85 rfl (lv_at hl 0 rfl) ?_
            exact fin _ _ (-1) () 86 _ dX12_verbOf_86 (fun h => by cases h) (by first | exact absurd c_78 (by decide) | exact absurd rfl c_78 | (unfold vbI; simp only [c_5, c_43, c_55, c_67, c_78, if_true, if_false]; first | done | rfl) | (unfold vbI; simp [c_5, c_43, c_55, c_67, c_78]; first | done | rfl)) hP hD hS
          · have c_78 : ¬ ((0 : Int32) = (-1)) := c_78
            refine lv_iload_n zx zb dX12_verbOf_81 rfl (lv_at hl 1 rfl) ?_
            refine lv_goto (tgt := 86) zx zb dX12_verbOf_82 (by decide) ?_
            exact fin _ _ (nI 0) () 86 _ dX12_verbOf_86 (fun h => by cases h) (by first | exact absurd c_78 (by decide) | exact absurd rfl c_78 | (unfold vbI; simp only [c_5, c_43, c_55, c_67, c_78, if_true, if_false]; first | done | rfl) | (unfold vbI; simp [c_5, c_43, c_55, c_67, c_78]; first | done | rfl)) hP hD hS
        · have c_67 : (lg_cmp h (690128537 : Int64)) = (0 : Int32) := c_67
          refine lv_iconst (v := nI 5) zx zb dX12_verbOf_70 (by decide) ?_
          refine lv_goto (tgt := 75) zx zb dX12_verbOf_71 (by decide) ?_
          refine lv_istore_n (lv' := [(3, .int (nI 5)), (2, .int (nI 0)), (0, .long h)]) zx zb dX12_verbOf_75 rfl hl (by decide) rfl (fun ls hl => ?_)
          refine lv_iload_n zx zb dX12_verbOf_76 rfl (lv_at hl 1 rfl) ?_
          refine lv_iconst (v := (-1)) zx zb dX12_verbOf_77 (by decide) ?_
          refine lv_icmp_eq (tgt := 85) zx zb dX12_verbOf_78 (by decide) (fun c_78 => ?_) (fun c_78 => ?_)
          · have c_78 : (0 : Int32) = (-1) := c_78
            refine lv_iload_n zx zb dX12_verbOf_85 rfl (lv_at hl 0 rfl) ?_
            exact fin _ _ (nI 5) () 86 _ dX12_verbOf_86 (fun h => by cases h) (by first | exact absurd c_78 (by decide) | exact absurd rfl c_78 | (unfold vbI; simp only [c_5, c_43, c_55, c_67, c_78, if_true, if_false]; first | done | rfl) | (unfold vbI; simp [c_5, c_43, c_55, c_67, c_78]; first | done | rfl)) hP hD hS
          · have c_78 : ¬ ((0 : Int32) = (-1)) := c_78
            refine lv_iload_n zx zb dX12_verbOf_81 rfl (lv_at hl 1 rfl) ?_
            refine lv_goto (tgt := 86) zx zb dX12_verbOf_82 (by decide) ?_
            exact fin _ _ (nI 0) () 86 _ dX12_verbOf_86 (fun h => by cases h) (by first | exact absurd c_78 (by decide) | exact absurd rfl c_78 | (unfold vbI; simp only [c_5, c_43, c_55, c_67, c_78, if_true, if_false]; first | done | rfl) | (unfold vbI; simp [c_5, c_43, c_55, c_67, c_78]; first | done | rfl)) hP hD hS
      · have c_55 : (lg_cmp h (441838 : Int64)) = (0 : Int32) := c_55
        refine lv_iconst (v := nI 4) zx zb dX12_verbOf_58 (by decide) ?_
        refine lv_goto (tgt := 75) zx zb dX12_verbOf_59 (by decide) ?_
        refine lv_istore_n (lv' := [(3, .int (nI 4)), (2, .int (nI 0)), (0, .long h)]) zx zb dX12_verbOf_75 rfl hl (by decide) rfl (fun ls hl => ?_)
        refine lv_iload_n zx zb dX12_verbOf_76 rfl (lv_at hl 1 rfl) ?_
        refine lv_iconst (v := (-1)) zx zb dX12_verbOf_77 (by decide) ?_
        refine lv_icmp_eq (tgt := 85) zx zb dX12_verbOf_78 (by decide) (fun c_78 => ?_) (fun c_78 => ?_)
        · have c_78 : (0 : Int32) = (-1) := c_78
          refine lv_iload_n zx zb dX12_verbOf_85 rfl (lv_at hl 0 rfl) ?_
          exact fin _ _ (nI 4) () 86 _ dX12_verbOf_86 (fun h => by cases h) (by first | exact absurd c_78 (by decide) | exact absurd rfl c_78 | (unfold vbI; simp only [c_5, c_43, c_55, c_78, if_true, if_false]; first | done | rfl) | (unfold vbI; simp [c_5, c_43, c_55, c_78]; first | done | rfl)) hP hD hS
        · have c_78 : ¬ ((0 : Int32) = (-1)) := c_78
          refine lv_iload_n zx zb dX12_verbOf_81 rfl (lv_at hl 1 rfl) ?_
          refine lv_goto (tgt := 86) zx zb dX12_verbOf_82 (by decide) ?_
          exact fin _ _ (nI 0) () 86 _ dX12_verbOf_86 (fun h => by cases h) (by first | exact absurd c_78 (by decide) | exact absurd rfl c_78 | (unfold vbI; simp only [c_5, c_43, c_55, c_78, if_true, if_false]; first | done | rfl) | (unfold vbI; simp [c_5, c_43, c_55, c_78]; first | done | rfl)) hP hD hS
    · have c_43 : (lg_cmp h (755156 : Int64)) = (0 : Int32) := c_43
      refine lv_iconst (v := nI 3) zx zb dX12_verbOf_46 (by decide) ?_
      refine lv_goto (tgt := 75) zx zb dX12_verbOf_47 (by decide) ?_
      refine lv_istore_n (lv' := [(3, .int (nI 3)), (2, .int (nI 0)), (0, .long h)]) zx zb dX12_verbOf_75 rfl hl (by decide) rfl (fun ls hl => ?_)
      refine lv_iload_n zx zb dX12_verbOf_76 rfl (lv_at hl 1 rfl) ?_
      refine lv_iconst (v := (-1)) zx zb dX12_verbOf_77 (by decide) ?_
      refine lv_icmp_eq (tgt := 85) zx zb dX12_verbOf_78 (by decide) (fun c_78 => ?_) (fun c_78 => ?_)
      · have c_78 : (0 : Int32) = (-1) := c_78
        refine lv_iload_n zx zb dX12_verbOf_85 rfl (lv_at hl 0 rfl) ?_
        exact fin _ _ (nI 3) () 86 _ dX12_verbOf_86 (fun h => by cases h) (by first | exact absurd c_78 (by decide) | exact absurd rfl c_78 | (unfold vbI; simp only [c_5, c_43, c_78, if_true, if_false]; first | done | rfl) | (unfold vbI; simp [c_5, c_43, c_78]; first | done | rfl)) hP hD hS
      · have c_78 : ¬ ((0 : Int32) = (-1)) := c_78
        refine lv_iload_n zx zb dX12_verbOf_81 rfl (lv_at hl 1 rfl) ?_
        refine lv_goto (tgt := 86) zx zb dX12_verbOf_82 (by decide) ?_
        exact fin _ _ (nI 0) () 86 _ dX12_verbOf_86 (fun h => by cases h) (by first | exact absurd c_78 (by decide) | exact absurd rfl c_78 | (unfold vbI; simp only [c_5, c_43, c_78, if_true, if_false]; first | done | rfl) | (unfold vbI; simp [c_5, c_43, c_78]; first | done | rfl)) hP hD hS

set_option maxHeartbeats 4000000 in
set_option maxRecDepth 100000 in
theorem c_X12_numbers (Γ : GG) (l : Launch) (w : Nat) (hw : w < 6) : Ci Γ l yX12_numbers cX12_numbers 1 (some (.int)) 0 0 0 0 [.int (nI w)] [] (fun (r : Int32) (u : Unit) => r = nI (nbN w)) (fun (u : Unit) => []) := by
  refine Ci.of (Or.inl rfl) (by decide) (Nat.le_of_ble_eq_true rfl) ?_
  intro pp ee ss mm bb me cd AA QQ XX hnm hA hP hD fin ls hl
  obtain ⟨zx, zb, hml, hown, hts, hK⟩ := id XX
  have hS : va_S AA ss.heap ss.heap [] := va_S.rf
  have hl : lv_has ls 1 [(0, .int (nI w))] := hl
  refine lv_iload_n zx zb dX12_numbers_0 rfl (lv_at hl 0 rfl) ?_
  refine lv_iconst (v := nI 1) zx zb dX12_numbers_1 (by decide) ?_
  refine lv_icmp_ne (tgt := 9) zx zb dX12_numbers_2 (by decide) (fun c_2 => ?_) (fun c_2 => ?_)
  · have c_2 : ¬ (w = 1) := fun h => c_2 ((nI_eq (a := w) (b := 1) (by omega) (by omega)).mpr h)
    refine lv_iload_n zx zb dX12_numbers_9 rfl (lv_at hl 0 rfl) ?_
    refine lv_iconst (v := nI 5) zx zb dX12_numbers_10 (by decide) ?_
    refine lv_icmp_ne (tgt := 19) zx zb dX12_numbers_11 (by decide) (fun c_11 => ?_) (fun c_11 => ?_)
    · have c_11 : ¬ (w = 5) := fun h => c_11 ((nI_eq (a := w) (b := 5) (by omega) (by omega)).mpr h)
      refine lv_iload_n zx zb dX12_numbers_19 rfl (lv_at hl 0 rfl) ?_
      refine lv_iconst (v := nI 2) zx zb dX12_numbers_20 (by decide) ?_
      refine lv_icmp_eq (tgt := 29) zx zb dX12_numbers_21 (by decide) (fun c_21 => ?_) (fun c_21 => ?_)
      · have c_21 : w = 2 := (nI_eq (a := w) (b := 2) (by omega) (by omega)).mp c_21
        refine lv_iconst (v := nI 2) zx zb dX12_numbers_29 (by decide) ?_
        refine lv_goto (tgt := 34) zx zb dX12_numbers_30 (by decide) ?_
        exact fin _ _ (nI 2) () 34 _ dX12_numbers_34 (fun h => by cases h) (by simp [nbN, c_2, c_11, c_21]) hP hD hS
      · have c_21 : ¬ (w = 2) := fun h => c_21 ((nI_eq (a := w) (b := 2) (by omega) (by omega)).mpr h)
        refine lv_iload_n zx zb dX12_numbers_24 rfl (lv_at hl 0 rfl) ?_
        refine lv_iconst (v := nI 3) zx zb dX12_numbers_25 (by decide) ?_
        refine lv_icmp_ne (tgt := 33) zx zb dX12_numbers_26 (by decide) (fun c_26 => ?_) (fun c_26 => ?_)
        · have c_26 : ¬ (w = 3) := fun h => c_26 ((nI_eq (a := w) (b := 3) (by omega) (by omega)).mpr h)
          refine lv_iconst (v := nI 1) zx zb dX12_numbers_33 (by decide) ?_
          exact fin _ _ (nI 1) () 34 _ dX12_numbers_34 (fun h => by cases h) (by simp [nbN, c_2, c_11, c_21, c_26]) hP hD hS
        · have c_26 : w = 3 := (nI_eq (a := w) (b := 3) (by omega) (by omega)).mp c_26
          refine lv_iconst (v := nI 2) zx zb dX12_numbers_29 (by decide) ?_
          refine lv_goto (tgt := 34) zx zb dX12_numbers_30 (by decide) ?_
          exact fin _ _ (nI 2) () 34 _ dX12_numbers_34 (fun h => by cases h) (by simp [nbN, c_2, c_11, c_21, c_26]) hP hD hS
    · have c_11 : w = 5 := (nI_eq (a := w) (b := 5) (by omega) (by omega)).mp c_11
      refine lv_bipush (v := nI 6) zx zb dX12_numbers_14 (by decide) ?_
      refine lv_goto (tgt := 34) zx zb dX12_numbers_16 (by decide) ?_
      exact fin _ _ (nI 6) () 34 _ dX12_numbers_34 (fun h => by cases h) (by simp [nbN, c_2, c_11]) hP hD hS
  · have c_2 : w = 1 := (nI_eq (a := w) (b := 1) (by omega) (by omega)).mp c_2
    refine lv_iconst (v := nI 4) zx zb dX12_numbers_5 (by decide) ?_
    refine lv_goto (tgt := 34) zx zb dX12_numbers_6 (by decide) ?_
    exact fin _ _ (nI 4) () 34 _ dX12_numbers_34 (fun h => by cases h) (by simp [nbN, c_2]) hP hD hS

set_option maxHeartbeats 4000000 in
set_option maxRecDepth 100000 in
theorem c_X12_scans (Γ : GG) (l : Launch) (m : Nat → Nat) (M : MoV) (g : Nat → Int32) (hl0 : M.2.1 ≤ 150) (hp0 : M.2.2.1 ≤ M.2.1) : Cv Γ l yX12_scans cX12_scans 3 none 2 47 0 0 [.ref (m 0)] [bMo Γ m M, bA Γ (m 7) 150 g] (fun (u : MoV) => (u.1 = M.1 ∧ u.2.1 = M.2.1 ∧ u.2.2.2.2.2.2 = M.2.2.2.2.2.2) ∧ tokG g M.2.1 M.2.2.1 u) (fun (u : MoV) => [bMo Γ m u, bA Γ (m 7) 150 g]) := by
  refine Cv.of rfl (by decide) (Nat.le_of_ble_eq_true rfl) ?_
  intro pp ee ss mm bb me cd AA QQ XX hnm hA hP hD fin ls hl
  obtain ⟨zx, zb, hml, hown, hts, hK⟩ := id XX
  have hS : va_S AA ss.heap ss.heap [] := va_S.rf
  have hl : lv_has ls 3 [(0, .ref (m 0))] := hl
  have L0 : ∀ (nn : Nat) (p : Nat), (M.2.2.1 ≤ p ∧ p ≤ M.2.1) → (∀ i, M.2.2.1 ≤ i → i < p → g i = 32) → M.2.1 - p < nn → ∀ (H : Heap) (locs : List Loc), bP Γ [bMo Γ m (M.1, M.2.1, p, M.2.2.2.1, M.2.2.2.2.1, M.2.2.2.2.2.1, M.2.2.2.2.2.2), bA Γ (m 7) 150 g] H → bD AA [bMo Γ m (M.1, M.2.1, p, M.2.2.2.1, M.2.2.2.2.1, M.2.2.2.2.2.1, M.2.2.2.2.2.2), bA Γ (m 7) 150 g] → va_S AA ss.heap H locs → ∀ (ls : Array Slot), lv_has ls 3 [(0, .ref (m 0))] → W pp l ee { frames := 2, cells := 0, slots := 0, locals := 47 } ss mm [.ref (m 0)].toArray bb me cd H locs 0 0 QQ (F0 mm 0 ls []) := by
    intro nn
    induction nn with
    | zero => intro p hp hb hm; exact absurd hm (Nat.not_lt_zero _)
    | succ nn ih0 =>
      intro p hp hb hm0 H locs hP hD hS ls hl
      refine lv_aload_n zx zb dX12_scans_0 rfl (lv_at hl 0 rfl) ?_
      refine lv_bipush (v := nI 32) zx zb dX12_scans_1 (by decide) ?_
      refine lv_bipush (v := nI 32) zx zb dX12_scans_3 (by decide) ?_
      refine call_Vi (As := [.int (nI 32), .int (nI 32)]) (rest := []) XX cv_X12_126 (c_X12_isAt Γ l m (M.1, M.2.1, p, M.2.2.2.1, M.2.2.2.2.1, M.2.2.2.2.2.1, M.2.2.2.2.2.2) g 32 32 (hl0) (show p ≤ 150 by omega)) hP hD hS hA [0, 1] (by decide) rfl (fun _ => rfl) 0 0 rfl rfl rfl rfl hl.1 rfl ⟨⟨by decide, by decide⟩, by decide, by decide⟩ (Nat.le_of_ble_eq_true rfl) dX12_scans_5 (fun r_5 u H locs hw hP hD hS => ?_)
      have hw := hw.symm
      subst hw
      have hP : bP Γ [bMo Γ m (M.1, M.2.1, p, M.2.2.2.1, M.2.2.2.2.1, M.2.2.2.2.2.1, M.2.2.2.2.2.2), bA Γ (m 7) 150 g] H := hP
      have hD : bD AA [bMo Γ m (M.1, M.2.1, p, M.2.2.2.1, M.2.2.2.2.1, M.2.2.2.2.2.1, M.2.2.2.2.2.2), bA Γ (m 7) 150 g] := hD
      refine lv_if_eq (tgt := 24) zx zb dX12_scans_8 (by decide) (fun c_8 => ?_) (fun c_8 => ?_)
      · have c_8 : (atB (M.1, M.2.1, p, M.2.2.2.1, M.2.2.2.2.1, M.2.2.2.2.2.1, M.2.2.2.2.2.2) g 32 32) = false := bI_0.mp c_8
        have eq : nxt g M.2.1 M.2.2.1 = p := sc_q hp hb c_8
        refine lv_aload_n zx zb dX12_scans_24 rfl (lv_at hl 0 rfl) ?_
        refine lv_aload_n zx zb dX12_scans_25 rfl (lv_at hl 0 rfl) ?_
        refine g_get (v := .int (nI p)) XX hP 0 0 rfl rfl rfl iwX12 9 (by decide) fl_X12_111 rfl dX12_scans_26 ?_
        refine g_put (v := .int (nI p)) (blk' := bMo Γ m (M.1, M.2.1, p, p, M.2.2.2.2.1, M.2.2.2.2.2.1, M.2.2.2.2.2.2)) (bs' := [bMo Γ m (M.1, M.2.1, p, p, M.2.2.2.2.1, M.2.2.2.2.2.1, M.2.2.2.2.2.2), bA Γ (m 7) 150 g]) XX hP hD hS 0 0 rfl rfl rfl iwX12 tyX12_ok nmX12 10 (by decide) fl_X12_130 rfl rfl rfl (Nat.le_of_ble_eq_true rfl) rfl rfl rfl dX12_scans_29 (fun H locs hP hD hS => ?_)
        refine lv_aload_n zx zb dX12_scans_32 rfl (lv_at hl 0 rfl) ?_
        refine g_get (v := .int (nI p)) XX hP 0 0 rfl rfl rfl iwX12 9 (by decide) fl_X12_111 rfl dX12_scans_33 ?_
        refine lv_aload_n zx zb dX12_scans_36 rfl (lv_at hl 0 rfl) ?_
        refine g_get (v := .int (nI (M.2.1))) XX hP 0 0 rfl rfl rfl iwX12 8 (by decide) fl_X12_107 rfl dX12_scans_37 ?_
        refine lv_icmp_ne (tgt := 49) zx zb dX12_scans_40 (by decide) (fun c_40 => ?_) (fun c_40 => ?_)
        · have c_40 : ¬ (p = M.2.1) := fun h => c_40 ((nI_eq (a := p) (b := M.2.1) (by omega) (by omega)).mpr h)
          have hpn : p < M.2.1 := by omega
          refine lv_aload_n zx zb dX12_scans_49 rfl (lv_at hl 0 rfl) ?_
          refine lv_bipush (v := nI 97) zx zb dX12_scans_50 (by decide) ?_
          refine lv_bipush (v := nI 122) zx zb dX12_scans_52 (by decide) ?_
          refine call_Vi (As := [.int (nI 97), .int (nI 122)]) (rest := []) XX cv_X12_126 (c_X12_isAt Γ l m (M.1, M.2.1, p, p, M.2.2.2.2.1, M.2.2.2.2.2.1, M.2.2.2.2.2.2) g 97 122 (hl0) (show p ≤ 150 by omega)) hP hD hS hA [0, 1] (by decide) rfl (fun _ => rfl) 0 0 rfl rfl rfl rfl hl.1 rfl ⟨⟨by decide, by decide⟩, by decide, by decide⟩ (Nat.le_of_ble_eq_true rfl) dX12_scans_54 (fun r_54 u H locs hw hP hD hS => ?_)
          have hw := hw.symm
          subst hw
          have hP : bP Γ [bMo Γ m (M.1, M.2.1, p, p, M.2.2.2.2.1, M.2.2.2.2.2.1, M.2.2.2.2.2.2), bA Γ (m 7) 150 g] H := hP
          have hD : bD AA [bMo Γ m (M.1, M.2.1, p, p, M.2.2.2.2.1, M.2.2.2.2.2.1, M.2.2.2.2.2.2), bA Γ (m 7) 150 g] := hD
          refine lv_if_eq (tgt := 163) zx zb dX12_scans_57 (by decide) (fun c_57 => ?_) (fun c_57 => ?_)
          · have c_57 : (atB (M.1, M.2.1, p, p, M.2.2.2.2.1, M.2.2.2.2.2.1, M.2.2.2.2.2.2) g 97 122) = false := bI_0.mp c_57
            have hL : isL (g p) = false := at_f c_57 hpn
            refine lv_aload_n zx zb dX12_scans_163 rfl (lv_at hl 0 rfl) ?_
            refine lv_bipush (v := nI 48) zx zb dX12_scans_164 (by decide) ?_
            refine lv_bipush (v := nI 57) zx zb dX12_scans_166 (by decide) ?_
            refine call_Vi (As := [.int (nI 48), .int (nI 57)]) (rest := []) XX cv_X12_126 (c_X12_isAt Γ l m (M.1, M.2.1, p, p, M.2.2.2.2.1, M.2.2.2.2.2.1, M.2.2.2.2.2.2) g 48 57 (hl0) (show p ≤ 150 by omega)) hP hD hS hA [0, 1] (by decide) rfl (fun _ => rfl) 0 0 rfl rfl rfl rfl hl.1 rfl ⟨⟨by decide, by decide⟩, by decide, by decide⟩ (Nat.le_of_ble_eq_true rfl) dX12_scans_168 (fun r_168 u H locs hw hP hD hS => ?_)
            have hw := hw.symm
            subst hw
            have hP : bP Γ [bMo Γ m (M.1, M.2.1, p, p, M.2.2.2.2.1, M.2.2.2.2.2.1, M.2.2.2.2.2.2), bA Γ (m 7) 150 g] H := hP
            have hD : bD AA [bMo Γ m (M.1, M.2.1, p, p, M.2.2.2.2.1, M.2.2.2.2.2.1, M.2.2.2.2.2.2), bA Γ (m 7) 150 g] := hD
            refine lv_if_eq (tgt := 270) zx zb dX12_scans_171 (by decide) (fun c_171 => ?_) (fun c_171 => ?_)
            · have c_171 : (atB (M.1, M.2.1, p, p, M.2.2.2.2.1, M.2.2.2.2.2.1, M.2.2.2.2.2.2) g 48 57) = false := bI_0.mp c_171
              have hF : isF (g p) = false := at_f c_171 hpn
              refine lv_aload_n zx zb dX12_scans_270 rfl (lv_at hl 0 rfl) ?_
              refine lv_aload_n zx zb dX12_scans_271 rfl (lv_at hl 0 rfl) ?_
              refine lv_bipush (v := nI 59) zx zb dX12_scans_272 (by decide) ?_
              refine lv_bipush (v := nI 59) zx zb dX12_scans_274 (by decide) ?_
              refine call_Vi (As := [.int (nI 59), .int (nI 59)]) (rest := [.ref (m 0)]) XX cv_X12_126 (c_X12_isAt Γ l m (M.1, M.2.1, p, p, M.2.2.2.2.1, M.2.2.2.2.2.1, M.2.2.2.2.2.2) g 59 59 (hl0) (show p ≤ 150 by omega)) hP hD hS hA [0, 1] (by decide) rfl (fun _ => rfl) 0 0 rfl rfl rfl rfl hl.1 rfl ⟨⟨by decide, by decide⟩, by decide, by decide⟩ (Nat.le_of_ble_eq_true rfl) dX12_scans_276 (fun r_276 u H locs hw hP hD hS => ?_)
              have hw := hw.symm
              subst hw
              have hP : bP Γ [bMo Γ m (M.1, M.2.1, p, p, M.2.2.2.2.1, M.2.2.2.2.2.1, M.2.2.2.2.2.2), bA Γ (m 7) 150 g] H := hP
              have hD : bD AA [bMo Γ m (M.1, M.2.1, p, p, M.2.2.2.2.1, M.2.2.2.2.2.1, M.2.2.2.2.2.2), bA Γ (m 7) 150 g] := hD
              refine lv_if_eq (tgt := 286) zx zb dX12_scans_279 (by decide) (fun c_279 => ?_) (fun c_279 => ?_)
              · have c_279 : (atB (M.1, M.2.1, p, p, M.2.2.2.2.1, M.2.2.2.2.2.1, M.2.2.2.2.2.2) g 59 59) = false := bI_0.mp c_279
                refine lv_iconst (v := nI 1) zx zb dX12_scans_286 (by decide) ?_
                refine g_put (v := .int (nI 1)) (blk' := bMo Γ m (M.1, M.2.1, p, p, 1, M.2.2.2.2.2.1, M.2.2.2.2.2.2)) (bs' := [bMo Γ m (M.1, M.2.1, p, p, 1, M.2.2.2.2.2.1, M.2.2.2.2.2.2), bA Γ (m 7) 150 g]) XX hP hD hS 0 0 rfl rfl rfl iwX12 tyX12_ok nmX12 11 (by decide) fl_X12_133 rfl rfl rfl (Nat.le_of_ble_eq_true rfl) rfl rfl rfl dX12_scans_287 (fun H locs hP hD hS => ?_)
                refine lv_aload_n zx zb dX12_scans_290 rfl (lv_at hl 0 rfl) ?_
                refine lv_dup zx zb dX12_scans_291 rfl ?_
                refine g_get (v := .int (nI p)) XX hP 0 0 rfl rfl rfl iwX12 9 (by decide) fl_X12_111 rfl dX12_scans_292 ?_
                refine lv_iconst (v := nI 1) zx zb dX12_scans_295 (by decide) ?_
                refine lv_iadd zx zb dX12_scans_296 ?_
                refine g_top (y := nI (p + 1)) (nI_add p 1) ?_
                refine g_put (v := .int (nI (p + 1))) (blk' := bMo Γ m (M.1, M.2.1, p + 1, p, 1, M.2.2.2.2.2.1, M.2.2.2.2.2.2)) (bs' := [bMo Γ m (M.1, M.2.1, p + 1, p, 1, M.2.2.2.2.2.1, M.2.2.2.2.2.2), bA Γ (m 7) 150 g]) XX hP hD hS 0 0 rfl rfl rfl iwX12 tyX12_ok nmX12 9 (by decide) fl_X12_111 rfl rfl rfl (Nat.le_of_ble_eq_true rfl) rfl rfl rfl dX12_scans_297 (fun H locs hP hD hS => ?_)
                exact fin _ _ (M.1, M.2.1, p + 1, p, 1, M.2.2.2.2.2.1, M.2.2.2.2.2.2) 300 _ dX12_scans_300 (⟨⟨rfl, rfl, rfl⟩, sc_4 eq hpn hL hF rfl rfl (Or.inr ⟨fun q => by have h9 := at_f c_279 hpn; rw [wi_one.mpr q] at h9; exact absurd h9 (by decide), rfl⟩)⟩) hP hD hS
              · have c_279 : (atB (M.1, M.2.1, p, p, M.2.2.2.2.1, M.2.2.2.2.2.1, M.2.2.2.2.2.2) g 59 59) = true := bI_ne c_279
                refine lv_iconst (v := nI 3) zx zb dX12_scans_282 (by decide) ?_
                refine lv_goto (tgt := 287) zx zb dX12_scans_283 (by decide) ?_
                refine g_put (v := .int (nI 3)) (blk' := bMo Γ m (M.1, M.2.1, p, p, 3, M.2.2.2.2.2.1, M.2.2.2.2.2.2)) (bs' := [bMo Γ m (M.1, M.2.1, p, p, 3, M.2.2.2.2.2.1, M.2.2.2.2.2.2), bA Γ (m 7) 150 g]) XX hP hD hS 0 0 rfl rfl rfl iwX12 tyX12_ok nmX12 11 (by decide) fl_X12_133 rfl rfl rfl (Nat.le_of_ble_eq_true rfl) rfl rfl rfl dX12_scans_287 (fun H locs hP hD hS => ?_)
                refine lv_aload_n zx zb dX12_scans_290 rfl (lv_at hl 0 rfl) ?_
                refine lv_dup zx zb dX12_scans_291 rfl ?_
                refine g_get (v := .int (nI p)) XX hP 0 0 rfl rfl rfl iwX12 9 (by decide) fl_X12_111 rfl dX12_scans_292 ?_
                refine lv_iconst (v := nI 1) zx zb dX12_scans_295 (by decide) ?_
                refine lv_iadd zx zb dX12_scans_296 ?_
                refine g_top (y := nI (p + 1)) (nI_add p 1) ?_
                refine g_put (v := .int (nI (p + 1))) (blk' := bMo Γ m (M.1, M.2.1, p + 1, p, 3, M.2.2.2.2.2.1, M.2.2.2.2.2.2)) (bs' := [bMo Γ m (M.1, M.2.1, p + 1, p, 3, M.2.2.2.2.2.1, M.2.2.2.2.2.2), bA Γ (m 7) 150 g]) XX hP hD hS 0 0 rfl rfl rfl iwX12 tyX12_ok nmX12 9 (by decide) fl_X12_111 rfl rfl rfl (Nat.le_of_ble_eq_true rfl) rfl rfl rfl dX12_scans_297 (fun H locs hP hD hS => ?_)
                exact fin _ _ (M.1, M.2.1, p + 1, p, 3, M.2.2.2.2.2.1, M.2.2.2.2.2.2) 300 _ dX12_scans_300 (⟨⟨rfl, rfl, rfl⟩, sc_4 eq hpn hL hF rfl rfl (Or.inl ⟨wi_one.mp (at_t c_279).2, rfl⟩)⟩) hP hD hS
            · have c_171 : (atB (M.1, M.2.1, p, p, M.2.2.2.2.1, M.2.2.2.2.2.1, M.2.2.2.2.2.2) g 48 57) = true := bI_ne c_171
              have hF : isF (g p) = true := (at_t c_171).2
              refine lv_aload_n zx zb dX12_scans_174 rfl (lv_at hl 0 rfl) ?_
              refine lv_iconst (v := nI 0) zx zb dX12_scans_175 (by decide) ?_
              refine g_put (v := .int (nI 0)) (blk' := bMo Γ m (M.1, M.2.1, p, p, M.2.2.2.2.1, 0, M.2.2.2.2.2.2)) (bs' := [bMo Γ m (M.1, M.2.1, p, p, M.2.2.2.2.1, 0, M.2.2.2.2.2.2), bA Γ (m 7) 150 g]) XX hP hD hS 0 0 rfl rfl rfl iwX12 tyX12_ok nmX12 12 (by decide) fl_X12_144 rfl rfl rfl (Nat.le_of_ble_eq_true rfl) rfl rfl rfl dX12_scans_176 (fun H locs hP hD hS => ?_)
              have L179 : ∀ (nn : Nat) (r : Nat) (v : Nat), (p ≤ r ∧ r ≤ M.2.1) → (∀ i, p ≤ i → i < r → isF (g i) = true) → (r - p ≤ 2 → nI v = nVal g p (r - p)) → ((r - p = 0 → v = 0) ∧ (r - p ≤ 1 → v ≤ 9) ∧ v ≤ 99) → M.2.1 - r < nn → ∀ (H : Heap) (locs : List Loc), bP Γ [bMo Γ m (M.1, M.2.1, r, p, M.2.2.2.2.1, v, M.2.2.2.2.2.2), bA Γ (m 7) 150 g] H → bD AA [bMo Γ m (M.1, M.2.1, r, p, M.2.2.2.2.1, v, M.2.2.2.2.2.2), bA Γ (m 7) 150 g] → va_S AA ss.heap H locs → ∀ (ls : Array Slot), lv_has ls 3 [(0, .ref (m 0))] → W pp l ee { frames := 2, cells := 0, slots := 0, locals := 47 } ss mm [.ref (m 0)].toArray bb me cd H locs 0 0 QQ (F0 mm 179 ls []) := by
                intro nn
                induction nn with
                | zero => intro r v hr hrun hv hvb hm; exact absurd hm (Nat.not_lt_zero _)
                | succ nn ih179 =>
                  intro r v hr hrun hv hvb hm179 H locs hP hD hS ls hl
                  refine lv_aload_n zx zb dX12_scans_179 rfl (lv_at hl 0 rfl) ?_
                  refine lv_bipush (v := nI 48) zx zb dX12_scans_180 (by decide) ?_
                  refine lv_bipush (v := nI 57) zx zb dX12_scans_182 (by decide) ?_
                  refine call_Vi (As := [.int (nI 48), .int (nI 57)]) (rest := []) XX cv_X12_126 (c_X12_isAt Γ l m (M.1, M.2.1, r, p, M.2.2.2.2.1, v, M.2.2.2.2.2.2) g 48 57 (hl0) (show r ≤ 150 by omega)) hP hD hS hA [0, 1] (by decide) rfl (fun _ => rfl) 0 0 rfl rfl rfl rfl hl.1 rfl ⟨⟨by decide, by decide⟩, by decide, by decide⟩ (Nat.le_of_ble_eq_true rfl) dX12_scans_184 (fun r_184 u H locs hw hP hD hS => ?_)
                  have hw := hw.symm
                  subst hw
                  have hP : bP Γ [bMo Γ m (M.1, M.2.1, r, p, M.2.2.2.2.1, v, M.2.2.2.2.2.2), bA Γ (m 7) 150 g] H := hP
                  have hD : bD AA [bMo Γ m (M.1, M.2.1, r, p, M.2.2.2.2.1, v, M.2.2.2.2.2.2), bA Γ (m 7) 150 g] := hD
                  refine lv_if_eq (tgt := 247) zx zb dX12_scans_187 (by decide) (fun c_187 => ?_) (fun c_187 => ?_)
                  · have c_187 : (atB (M.1, M.2.1, r, p, M.2.2.2.2.1, v, M.2.2.2.2.2.2) g 48 57) = false := bI_0.mp c_187
                    have ho : r = M.2.1 ∨ isF (g r) = false := at_or hr.2 c_187
                    refine lv_aload_n zx zb dX12_scans_247 rfl (lv_at hl 0 rfl) ?_
                    refine lv_aload_n zx zb dX12_scans_248 rfl (lv_at hl 0 rfl) ?_
                    refine g_get (v := .int (nI r)) XX hP 0 0 rfl rfl rfl iwX12 9 (by decide) fl_X12_111 rfl dX12_scans_249 ?_
                    refine lv_aload_n zx zb dX12_scans_252 rfl (lv_at hl 0 rfl) ?_
                    refine g_get (v := .int (nI p)) XX hP 0 0 rfl rfl rfl iwX12 10 (by decide) fl_X12_130 rfl dX12_scans_253 ?_
                    refine lv_isub zx zb dX12_scans_256 ?_
                    refine g_top (y := nI (r - p)) (pk_sub (by omega)) ?_
                    refine lv_iconst (v := nI 2) zx zb dX12_scans_257 (by decide) ?_
                    refine lv_icmp_le (tgt := 265) zx zb dX12_scans_258 (by decide) (fun c_258 => ?_) (fun c_258 => ?_)
                    · have c_258 : r - p ≤ 2 := (nI_leI (a := r - p) (b := 2) (by omega) (by omega)).mp c_258
                      refine lv_iconst (v := nI 2) zx zb dX12_scans_265 (by decide) ?_
                      refine g_put (v := .int (nI 2)) (blk' := bMo Γ m (M.1, M.2.1, r, p, 2, v, M.2.2.2.2.2.2)) (bs' := [bMo Γ m (M.1, M.2.1, r, p, 2, v, M.2.2.2.2.2.2), bA Γ (m 7) 150 g]) XX hP hD hS 0 0 rfl rfl rfl iwX12 tyX12_ok nmX12 11 (by decide) fl_X12_133 rfl rfl rfl (Nat.le_of_ble_eq_true rfl) rfl rfl rfl dX12_scans_266 (fun H locs hP hD hS => ?_)
                      exact fin _ _ (M.1, M.2.1, r, p, 2, v, M.2.2.2.2.2.2) 269 _ dX12_scans_269 (⟨⟨rfl, rfl, rfl⟩, sc_3 eq hpn hL hF hr hrun ho rfl rfl (Or.inr ⟨by omega, rfl, hv (by omega)⟩)⟩) hP hD hS
                    · have c_258 : ¬ (r - p ≤ 2) := fun h => c_258 ((nI_leI (a := r - p) (b := 2) (by omega) (by omega)).mpr h)
                      refine lv_iconst (v := nI 1) zx zb dX12_scans_261 (by decide) ?_
                      refine lv_goto (tgt := 266) zx zb dX12_scans_262 (by decide) ?_
                      refine g_put (v := .int (nI 1)) (blk' := bMo Γ m (M.1, M.2.1, r, p, 1, v, M.2.2.2.2.2.2)) (bs' := [bMo Γ m (M.1, M.2.1, r, p, 1, v, M.2.2.2.2.2.2), bA Γ (m 7) 150 g]) XX hP hD hS 0 0 rfl rfl rfl iwX12 tyX12_ok nmX12 11 (by decide) fl_X12_133 rfl rfl rfl (Nat.le_of_ble_eq_true rfl) rfl rfl rfl dX12_scans_266 (fun H locs hP hD hS => ?_)
                      exact fin _ _ (M.1, M.2.1, r, p, 1, v, M.2.2.2.2.2.2) 269 _ dX12_scans_269 (⟨⟨rfl, rfl, rfl⟩, sc_3 eq hpn hL hF hr hrun ho rfl rfl (Or.inl ⟨by omega, rfl⟩)⟩) hP hD hS
                  · have c_187 : (atB (M.1, M.2.1, r, p, M.2.2.2.2.1, v, M.2.2.2.2.2.2) g 48 57) = true := bI_ne c_187
                    have hrn : r < M.2.1 ∧ isF (g r) = true := at_t c_187
                    refine lv_aload_n zx zb dX12_scans_190 rfl (lv_at hl 0 rfl) ?_
                    refine lv_aload_n zx zb dX12_scans_191 rfl (lv_at hl 0 rfl) ?_
                    refine g_get (v := .int (nI r)) XX hP 0 0 rfl rfl rfl iwX12 9 (by decide) fl_X12_111 rfl dX12_scans_192 ?_
                    refine lv_aload_n zx zb dX12_scans_195 rfl (lv_at hl 0 rfl) ?_
                    refine g_get (v := .int (nI p)) XX hP 0 0 rfl rfl rfl iwX12 10 (by decide) fl_X12_130 rfl dX12_scans_196 ?_
                    refine lv_isub zx zb dX12_scans_199 ?_
                    refine g_top (y := nI (r - p)) (pk_sub (by omega)) ?_
                    refine lv_iconst (v := nI 2) zx zb dX12_scans_200 (by decide) ?_
                    refine lv_icmp_ge (tgt := 227) zx zb dX12_scans_201 (by decide) (fun c_201 => ?_) (fun c_201 => ?_)
                    · have c_201 : 2 ≤ r - p := (nI_leI (a := 2) (b := r - p) (by omega) (by omega)).mp c_201
                      refine lv_aload_n zx zb dX12_scans_227 rfl (lv_at hl 0 rfl) ?_
                      refine g_get (v := .int (nI v)) XX hP 0 0 rfl rfl rfl iwX12 12 (by decide) fl_X12_144 rfl dX12_scans_228 ?_
                      refine g_put (v := .int (nI v)) (blk' := bMo Γ m (M.1, M.2.1, r, p, M.2.2.2.2.1, v, M.2.2.2.2.2.2)) (bs' := [bMo Γ m (M.1, M.2.1, r, p, M.2.2.2.2.1, v, M.2.2.2.2.2.2), bA Γ (m 7) 150 g]) XX hP hD hS 0 0 rfl rfl rfl iwX12 tyX12_ok nmX12 12 (by decide) fl_X12_144 rfl rfl rfl (Nat.le_of_ble_eq_true rfl) rfl rfl rfl dX12_scans_231 (fun H locs hP hD hS => ?_)
                      refine lv_aload_n zx zb dX12_scans_234 rfl (lv_at hl 0 rfl) ?_
                      refine lv_dup zx zb dX12_scans_235 rfl ?_
                      refine g_get (v := .int (nI r)) XX hP 0 0 rfl rfl rfl iwX12 9 (by decide) fl_X12_111 rfl dX12_scans_236 ?_
                      refine lv_iconst (v := nI 1) zx zb dX12_scans_239 (by decide) ?_
                      refine lv_iadd zx zb dX12_scans_240 ?_
                      refine g_top (y := nI (r + 1)) (nI_add r 1) ?_
                      refine g_put (v := .int (nI (r + 1))) (blk' := bMo Γ m (M.1, M.2.1, r + 1, p, M.2.2.2.2.1, v, M.2.2.2.2.2.2)) (bs' := [bMo Γ m (M.1, M.2.1, r + 1, p, M.2.2.2.2.1, v, M.2.2.2.2.2.2), bA Γ (m 7) 150 g]) XX hP hD hS 0 0 rfl rfl rfl iwX12 tyX12_ok nmX12 9 (by decide) fl_X12_111 rfl rfl rfl (Nat.le_of_ble_eq_true rfl) rfl rfl rfl dX12_scans_241 (fun H locs hP hD hS => ?_)
                      refine lv_goto (tgt := 179) zx zb dX12_scans_244 (by decide) ?_
                      exact ih179 (r + 1) v (by have h9 : r < M.2.1 := hrn.1; omega) (run_b hrun hrn.2) (by first | exact nV_s hr.1 hv c_201 edg hdg.1 | exact fun q => absurd c_201 (by omega)) (by first | exact ⟨fun h => absurd h (by omega), fun h => by omega, by omega⟩ | omega) (by have h9 : r < M.2.1 := hrn.1; omega) _ _ hP hD hS _ (lv_sub hl [0] rfl)
                    · have c_201 : ¬ (2 ≤ r - p) := fun h => c_201 ((nI_leI (a := 2) (b := r - p) (by omega) (by omega)).mpr h)
                      obtain ⟨dg, hdg, edg⟩ := wi_nat 48 57 hrn.2 rfl rfl (by decide)
                      have edg : g r = nI dg := edg
                      refine lv_bipush (v := nI 10) zx zb dX12_scans_204 (by decide) ?_
                      refine lv_aload_n zx zb dX12_scans_206 rfl (lv_at hl 0 rfl) ?_
                      refine g_get (v := .int (nI v)) XX hP 0 0 rfl rfl rfl iwX12 12 (by decide) fl_X12_144 rfl dX12_scans_207 ?_
                      refine lv_imul zx zb dX12_scans_210 ?_
                      refine g_top (y := nI (10 * v)) (pk_mul 10 v) ?_
                      refine lv_aload_n zx zb dX12_scans_211 rfl (lv_at hl 0 rfl) ?_
                      refine g_get (v := .ref (m 7)) XX hP 0 0 rfl rfl rfl iwX12 7 (by decide) fl_X12_29 rfl dX12_scans_212 ?_
                      refine lv_aload_n zx zb dX12_scans_215 rfl (lv_at hl 0 rfl) ?_
                      refine g_get (v := .int (nI r)) XX hP 0 0 rfl rfl rfl iwX12 9 (by decide) fl_X12_111 rfl dX12_scans_216 ?_
                      refine g_ialdN (i := r) XX hP 1 0 rfl rfl (by omega) (by decide) dX12_scans_219 ?_
                      refine lv_iadd zx zb dX12_scans_220 ?_
                      refine lv_bipush (v := nI 48) zx zb dX12_scans_221 (by decide) ?_
                      refine lv_isub zx zb dX12_scans_223 ?_
                      refine g_top (y := ((nI (10 * v)) + (g r)) - 48) rfl ?_
                      refine g_top (y := nI (10 * v + dg - 48)) (by rw [edg, nI_add]; exact pk_sub (b := 48) (by omega)) ?_
                      refine lv_goto (tgt := 231) zx zb dX12_scans_224 (by decide) ?_
                      refine g_put (v := .int (nI (10 * v + dg - 48))) (blk' := bMo Γ m (M.1, M.2.1, r, p, M.2.2.2.2.1, 10 * v + dg - 48, M.2.2.2.2.2.2)) (bs' := [bMo Γ m (M.1, M.2.1, r, p, M.2.2.2.2.1, 10 * v + dg - 48, M.2.2.2.2.2.2), bA Γ (m 7) 150 g]) XX hP hD hS 0 0 rfl rfl rfl iwX12 tyX12_ok nmX12 12 (by decide) fl_X12_144 rfl rfl rfl (Nat.le_of_ble_eq_true rfl) rfl rfl rfl dX12_scans_231 (fun H locs hP hD hS => ?_)
                      refine lv_aload_n zx zb dX12_scans_234 rfl (lv_at hl 0 rfl) ?_
                      refine lv_dup zx zb dX12_scans_235 rfl ?_
                      refine g_get (v := .int (nI r)) XX hP 0 0 rfl rfl rfl iwX12 9 (by decide) fl_X12_111 rfl dX12_scans_236 ?_
                      refine lv_iconst (v := nI 1) zx zb dX12_scans_239 (by decide) ?_
                      refine lv_iadd zx zb dX12_scans_240 ?_
                      refine g_top (y := nI (r + 1)) (nI_add r 1) ?_
                      refine g_put (v := .int (nI (r + 1))) (blk' := bMo Γ m (M.1, M.2.1, r + 1, p, M.2.2.2.2.1, 10 * v + dg - 48, M.2.2.2.2.2.2)) (bs' := [bMo Γ m (M.1, M.2.1, r + 1, p, M.2.2.2.2.1, 10 * v + dg - 48, M.2.2.2.2.2.2), bA Γ (m 7) 150 g]) XX hP hD hS 0 0 rfl rfl rfl iwX12 tyX12_ok nmX12 9 (by decide) fl_X12_111 rfl rfl rfl (Nat.le_of_ble_eq_true rfl) rfl rfl rfl dX12_scans_241 (fun H locs hP hD hS => ?_)
                      refine lv_goto (tgt := 179) zx zb dX12_scans_244 (by decide) ?_
                      exact ih179 (r + 1) (10 * v + dg - 48) (by have h9 : r < M.2.1 := hrn.1; omega) (run_b hrun hrn.2) (by first | exact nV_s hr.1 hv c_201 edg hdg.1 | exact fun q => absurd c_201 (by omega)) (by first | exact ⟨fun h => absurd h (by omega), fun h => by omega, by omega⟩ | omega) (by have h9 : r < M.2.1 := hrn.1; omega) _ _ hP hD hS _ (lv_sub hl [0] rfl)
              exact L179 _ p 0 (⟨Nat.le_refl _, by omega⟩) (fun i h1 h2 => absurd h1 (by omega)) (fun _ => by rw [Nat.sub_self]; rfl) (⟨fun _ => rfl, fun _ => by omega, by omega⟩) (Nat.lt_succ_self _) _ _ hP hD hS _ (lv_sub hl [0] rfl)
          · have c_57 : (atB (M.1, M.2.1, p, p, M.2.2.2.2.1, M.2.2.2.2.2.1, M.2.2.2.2.2.2) g 97 122) = true := bI_ne c_57
            have hL : isL (g p) = true := (at_t c_57).2
            refine lv_lconst (v := (0 : Int32).toInt64) zx zb dX12_scans_60 (by decide) ?_
            refine lv_lstore_n (lv' := [(1, .long ((0 : Int32).toInt64)), (0, .ref (m 0))]) zx zb dX12_scans_61 rfl hl (by decide) rfl (fun ls hl => ?_)
            have L62 : ∀ (nn : Nat) (r : Nat) (h : Int64), (p ≤ r ∧ r ≤ M.2.1) → (∀ i, p ≤ i → i < r → isL (g i) = true) → (r - p ≤ 6 → h = hV g p (r - p)) → M.2.1 - r < nn → ∀ (H : Heap) (locs : List Loc), bP Γ [bMo Γ m (M.1, M.2.1, r, p, M.2.2.2.2.1, M.2.2.2.2.2.1, M.2.2.2.2.2.2), bA Γ (m 7) 150 g] H → bD AA [bMo Γ m (M.1, M.2.1, r, p, M.2.2.2.2.1, M.2.2.2.2.2.1, M.2.2.2.2.2.2), bA Γ (m 7) 150 g] → va_S AA ss.heap H locs → ∀ (ls : Array Slot), lv_has ls 3 [(0, .ref (m 0)), (1, .long h)] → W pp l ee { frames := 2, cells := 0, slots := 0, locals := 47 } ss mm [.ref (m 0)].toArray bb me cd H locs 0 0 QQ (F0 mm 62 ls []) := by
              intro nn
              induction nn with
              | zero => intro r h hr hrun hh hm; exact absurd hm (Nat.not_lt_zero _)
              | succ nn ih62 =>
                intro r h hr hrun hh hm62 H locs hP hD hS ls hl
                refine lv_aload_n zx zb dX12_scans_62 rfl (lv_at hl 0 rfl) ?_
                refine lv_bipush (v := nI 97) zx zb dX12_scans_63 (by decide) ?_
                refine lv_bipush (v := nI 122) zx zb dX12_scans_65 (by decide) ?_
                refine call_Vi (As := [.int (nI 97), .int (nI 122)]) (rest := []) XX cv_X12_126 (c_X12_isAt Γ l m (M.1, M.2.1, r, p, M.2.2.2.2.1, M.2.2.2.2.2.1, M.2.2.2.2.2.2) g 97 122 (hl0) (show r ≤ 150 by omega)) hP hD hS hA [0, 1] (by decide) rfl (fun _ => rfl) 0 0 rfl rfl rfl rfl hl.1 rfl ⟨⟨by decide, by decide⟩, by decide, by decide⟩ (Nat.le_of_ble_eq_true rfl) dX12_scans_67 (fun r_67 u H locs hw hP hD hS => ?_)
                have hw := hw.symm
                subst hw
                have hP : bP Γ [bMo Γ m (M.1, M.2.1, r, p, M.2.2.2.2.1, M.2.2.2.2.2.1, M.2.2.2.2.2.2), bA Γ (m 7) 150 g] H := hP
                have hD : bD AA [bMo Γ m (M.1, M.2.1, r, p, M.2.2.2.2.1, M.2.2.2.2.2.1, M.2.2.2.2.2.2), bA Γ (m 7) 150 g] := hD
                refine lv_if_eq (tgt := 126) zx zb dX12_scans_70 (by decide) (fun c_70 => ?_) (fun c_70 => ?_)
                · have c_70 : (atB (M.1, M.2.1, r, p, M.2.2.2.2.1, M.2.2.2.2.2.1, M.2.2.2.2.2.2) g 97 122) = false := bI_0.mp c_70
                  have ho : r = M.2.1 ∨ isL (g r) = false := at_or hr.2 c_70
                  refine lv_aload_n zx zb dX12_scans_126 rfl (lv_at hl 0 rfl) ?_
                  refine lv_aload_n zx zb dX12_scans_127 rfl (lv_at hl 0 rfl) ?_
                  refine g_get (v := .int (nI r)) XX hP 0 0 rfl rfl rfl iwX12 9 (by decide) fl_X12_111 rfl dX12_scans_128 ?_
                  refine lv_aload_n zx zb dX12_scans_131 rfl (lv_at hl 0 rfl) ?_
                  refine g_get (v := .int (nI p)) XX hP 0 0 rfl rfl rfl iwX12 10 (by decide) fl_X12_130 rfl dX12_scans_132 ?_
                  refine lv_isub zx zb dX12_scans_135 ?_
                  refine g_top (y := nI (r - p)) (pk_sub (by omega)) ?_
                  refine lv_bipush (v := nI 6) zx zb dX12_scans_136 (by decide) ?_
                  refine lv_icmp_gt (tgt := 149) zx zb dX12_scans_138 (by decide) (fun c_138 => ?_) (fun c_138 => ?_)
                  · have c_138 : 6 < r - p := (nI_ltI (a := 6) (b := r - p) (by omega) (by omega)).mp c_138
                    refine lv_iconst (v := nI 1) zx zb dX12_scans_149 (by decide) ?_
                    refine lv_goto (tgt := 159) zx zb dX12_scans_150 (by decide) ?_
                    refine g_put (v := .int (nI 1)) (blk' := bMo Γ m (M.1, M.2.1, r, p, 1, M.2.2.2.2.2.1, M.2.2.2.2.2.2)) (bs' := [bMo Γ m (M.1, M.2.1, r, p, 1, M.2.2.2.2.2.1, M.2.2.2.2.2.2), bA Γ (m 7) 150 g]) XX hP hD hS 0 0 rfl rfl rfl iwX12 tyX12_ok nmX12 11 (by decide) fl_X12_133 rfl rfl rfl (Nat.le_of_ble_eq_true rfl) rfl rfl rfl dX12_scans_159 (fun H locs hP hD hS => ?_)
                    exact fin _ _ (M.1, M.2.1, r, p, 1, M.2.2.2.2.2.1, M.2.2.2.2.2.2) 162 _ dX12_scans_162 (⟨⟨rfl, rfl, rfl⟩, sc_2 eq hpn hL hr hrun ho rfl rfl (Or.inl ⟨wIx_long (by omega), rfl⟩)⟩) hP hD hS
                  · have c_138 : ¬ (6 < r - p) := fun h => c_138 ((nI_ltI (a := 6) (b := r - p) (by omega) (by omega)).mpr h)
                    have hlt : p < r := by rcases ho with ho | ho; exact (by have ho : r = M.2.1 := ho; omega); exact (by apply Classical.byContradiction; intro q; have e : r = p := (by omega); have ho : isL (g r) = false := ho; rw [e, hL] at ho; exact absurd ho (by decide))
                    refine lv_lload_n zx zb dX12_scans_141 rfl (lv_at hl 1 rfl) ?_
                    refine callR_Si (As := [.long h]) (rest := [.ref (m 0)]) XX cs_X12_140 (c_X12_verbOf Γ l h ) hP hD hS hA nil_mem nil_D rfl hl.1 rfl ⟨⟨by decide, by decide⟩, by decide, by decide⟩ (Nat.le_of_ble_eq_true rfl) dX12_scans_142 (fun r_142 H locs hw hP hS => ?_)
                    have hw := hw.symm
                    subst hw
                    refine lv_iconst (v := (-1)) zx zb dX12_scans_145 (by decide) ?_
                    refine lv_icmp_ne (tgt := 153) zx zb dX12_scans_146 (by decide) (fun c_146 => ?_) (fun c_146 => ?_)
                    · have c_146 : ¬ ((vbI h) = (-1)) := c_146
                      obtain ⟨hw6, ew6⟩ := wI_2 (w := wIx g p r) (by rw [← vb_ix hlt (by omega) hrun, ← hh (by omega)]; exact c_146)
                      refine lv_iconst (v := nI 4) zx zb dX12_scans_153 (by decide) ?_
                      refine lv_lload_n zx zb dX12_scans_154 rfl (lv_at hl 1 rfl) ?_
                      refine callR_Si (As := [.long h]) (rest := [.int (nI 4), .ref (m 0)]) XX cs_X12_140 (c_X12_verbOf Γ l h ) hP hD hS hA nil_mem nil_D rfl hl.1 rfl ⟨⟨by decide, by decide⟩, by decide, by decide⟩ (Nat.le_of_ble_eq_true rfl) dX12_scans_155 (fun r_155 H locs hw hP hS => ?_)
                      have hw := hw.symm
                      subst hw
                      refine lv_iadd zx zb dX12_scans_158 ?_
                      refine g_top (y := 4 + (vbI h)) rfl ?_
                      refine g_top (y := nI (4 + wIx g p r)) (by rw [hh (by omega), vb_ix hlt (by omega) hrun, ew6]; exact nI_add 4 _) ?_
                      refine g_put (v := .int (nI (4 + wIx g p r))) (blk' := bMo Γ m (M.1, M.2.1, r, p, 4 + wIx g p r, M.2.2.2.2.2.1, M.2.2.2.2.2.2)) (bs' := [bMo Γ m (M.1, M.2.1, r, p, 4 + wIx g p r, M.2.2.2.2.2.1, M.2.2.2.2.2.2), bA Γ (m 7) 150 g]) XX hP hD hS 0 0 rfl rfl rfl iwX12 tyX12_ok nmX12 11 (by decide) fl_X12_133 rfl rfl rfl (Nat.le_of_ble_eq_true rfl) rfl rfl rfl dX12_scans_159 (fun H locs hP hD hS => ?_)
                      exact fin _ _ (M.1, M.2.1, r, p, 4 + wIx g p r, M.2.2.2.2.2.1, M.2.2.2.2.2.2) 162 _ dX12_scans_162 (⟨⟨rfl, rfl, rfl⟩, sc_2 eq hpn hL hr hrun ho rfl rfl (Or.inr ⟨hw6, rfl⟩)⟩) hP hD hS
                    · have c_146 : (vbI h) = (-1) := c_146
                      refine lv_iconst (v := nI 1) zx zb dX12_scans_149 (by decide) ?_
                      refine lv_goto (tgt := 159) zx zb dX12_scans_150 (by decide) ?_
                      refine g_put (v := .int (nI 1)) (blk' := bMo Γ m (M.1, M.2.1, r, p, 1, M.2.2.2.2.2.1, M.2.2.2.2.2.2)) (bs' := [bMo Γ m (M.1, M.2.1, r, p, 1, M.2.2.2.2.2.1, M.2.2.2.2.2.2), bA Γ (m 7) 150 g]) XX hP hD hS 0 0 rfl rfl rfl iwX12 tyX12_ok nmX12 11 (by decide) fl_X12_133 rfl rfl rfl (Nat.le_of_ble_eq_true rfl) rfl rfl rfl dX12_scans_159 (fun H locs hP hD hS => ?_)
                      exact fin _ _ (M.1, M.2.1, r, p, 1, M.2.2.2.2.2.1, M.2.2.2.2.2.2) 162 _ dX12_scans_162 (⟨⟨rfl, rfl, rfl⟩, sc_2 eq hpn hL hr hrun ho rfl rfl (Or.inl ⟨wI_1 (by rw [← vb_ix hlt (by omega) hrun, ← hh (by omega)]; exact c_146) wIx_le, rfl⟩)⟩) hP hD hS
                · have c_70 : (atB (M.1, M.2.1, r, p, M.2.2.2.2.1, M.2.2.2.2.2.1, M.2.2.2.2.2.2) g 97 122) = true := bI_ne c_70
                  have hrn : r < M.2.1 ∧ isL (g r) = true := at_t c_70
                  refine lv_aload_n zx zb dX12_scans_73 rfl (lv_at hl 0 rfl) ?_
                  refine g_get (v := .int (nI r)) XX hP 0 0 rfl rfl rfl iwX12 9 (by decide) fl_X12_111 rfl dX12_scans_74 ?_
                  refine lv_aload_n zx zb dX12_scans_77 rfl (lv_at hl 0 rfl) ?_
                  refine g_get (v := .int (nI p)) XX hP 0 0 rfl rfl rfl iwX12 10 (by decide) fl_X12_130 rfl dX12_scans_78 ?_
                  refine lv_isub zx zb dX12_scans_81 ?_
                  refine g_top (y := nI (r - p)) (pk_sub (by omega)) ?_
                  refine lv_iconst (v := nI 5) zx zb dX12_scans_82 (by decide) ?_
                  refine lv_icmp_le (tgt := 90) zx zb dX12_scans_83 (by decide) (fun c_83 => ?_) (fun c_83 => ?_)
                  · have c_83 : r - p ≤ 5 := (nI_leI (a := r - p) (b := 5) (by omega) (by omega)).mp c_83
                    refine lv_ldc2 zx zb hown (hts _ kl_X12_136) dX12_scans_90 ?_
                    refine lv_lload_n zx zb dX12_scans_93 rfl (lv_at hl 1 rfl) ?_
                    refine lv_lmul zx zb dX12_scans_94 ?_
                    refine lv_aload_n zx zb dX12_scans_95 rfl (lv_at hl 0 rfl) ?_
                    refine g_get (v := .ref (m 7)) XX hP 0 0 rfl rfl rfl iwX12 7 (by decide) fl_X12_29 rfl dX12_scans_96 ?_
                    refine lv_aload_n zx zb dX12_scans_99 rfl (lv_at hl 0 rfl) ?_
                    refine g_get (v := .int (nI r)) XX hP 0 0 rfl rfl rfl iwX12 9 (by decide) fl_X12_111 rfl dX12_scans_100 ?_
                    refine g_ialdN (i := r) XX hP 1 0 rfl rfl (by omega) (by decide) dX12_scans_103 ?_
                    refine lv_i2l (v := (g r).toInt64) zx zb dX12_scans_104 rfl ?_
                    refine lv_ladd zx zb dX12_scans_105 ?_
                    refine lv_ldc2 zx zb hown (hts _ kl_X12_138) dX12_scans_106 ?_
                    refine lv_lsub zx zb dX12_scans_109 ?_
                    refine lv_lconst (v := (1 : Int32).toInt64) zx zb dX12_scans_110 (by decide) ?_
                    refine lv_ladd zx zb dX12_scans_111 ?_
                    refine lv_lstore_n (lv' := [(1, .long (((((32 : Int64) * h) + ((g r).toInt64)) - (97 : Int64)) + ((1 : Int32).toInt64))), (0, .ref (m 0))]) zx zb dX12_scans_112 rfl hl (by decide) rfl (fun ls hl => ?_)
                    refine lv_aload_n zx zb dX12_scans_113 rfl (lv_at hl 1 rfl) ?_
                    refine lv_dup zx zb dX12_scans_114 rfl ?_
                    refine g_get (v := .int (nI r)) XX hP 0 0 rfl rfl rfl iwX12 9 (by decide) fl_X12_111 rfl dX12_scans_115 ?_
                    refine lv_iconst (v := nI 1) zx zb dX12_scans_118 (by decide) ?_
                    refine lv_iadd zx zb dX12_scans_119 ?_
                    refine g_top (y := nI (r + 1)) (nI_add r 1) ?_
                    refine g_put (v := .int (nI (r + 1))) (blk' := bMo Γ m (M.1, M.2.1, r + 1, p, M.2.2.2.2.1, M.2.2.2.2.2.1, M.2.2.2.2.2.2)) (bs' := [bMo Γ m (M.1, M.2.1, r + 1, p, M.2.2.2.2.1, M.2.2.2.2.2.1, M.2.2.2.2.2.2), bA Γ (m 7) 150 g]) XX hP hD hS 0 0 rfl rfl rfl iwX12 tyX12_ok nmX12 9 (by decide) fl_X12_111 rfl rfl rfl (Nat.le_of_ble_eq_true rfl) rfl rfl rfl dX12_scans_120 (fun H locs hP hD hS => ?_)
                    refine lv_goto (tgt := 62) zx zb dX12_scans_123 (by decide) ?_
                    exact ih62 (r + 1) (((((32 : Int64) * h) + ((g r).toInt64)) - (97 : Int64)) + ((1 : Int32).toInt64)) (by have h9 : r < M.2.1 := hrn.1; omega) (run_b hrun hrn.2) (by first | exact hV_s hr.1 c_83 hh | exact fun q => absurd c_83 (by omega)) (by have h9 : r < M.2.1 := hrn.1; omega) _ _ hP hD hS _ (lv_sub hl [1, 0] rfl)
                  · have c_83 : ¬ (r - p ≤ 5) := fun h => c_83 ((nI_leI (a := r - p) (b := 5) (by omega) (by omega)).mpr h)
                    refine lv_lconst (v := (0 : Int32).toInt64) zx zb dX12_scans_86 (by decide) ?_
                    refine lv_goto (tgt := 112) zx zb dX12_scans_87 (by decide) ?_
                    refine lv_lstore_n (lv' := [(1, .long ((0 : Int32).toInt64)), (0, .ref (m 0))]) zx zb dX12_scans_112 rfl hl (by decide) rfl (fun ls hl => ?_)
                    refine lv_aload_n zx zb dX12_scans_113 rfl (lv_at hl 1 rfl) ?_
                    refine lv_dup zx zb dX12_scans_114 rfl ?_
                    refine g_get (v := .int (nI r)) XX hP 0 0 rfl rfl rfl iwX12 9 (by decide) fl_X12_111 rfl dX12_scans_115 ?_
                    refine lv_iconst (v := nI 1) zx zb dX12_scans_118 (by decide) ?_
                    refine lv_iadd zx zb dX12_scans_119 ?_
                    refine g_top (y := nI (r + 1)) (nI_add r 1) ?_
                    refine g_put (v := .int (nI (r + 1))) (blk' := bMo Γ m (M.1, M.2.1, r + 1, p, M.2.2.2.2.1, M.2.2.2.2.2.1, M.2.2.2.2.2.2)) (bs' := [bMo Γ m (M.1, M.2.1, r + 1, p, M.2.2.2.2.1, M.2.2.2.2.2.1, M.2.2.2.2.2.2), bA Γ (m 7) 150 g]) XX hP hD hS 0 0 rfl rfl rfl iwX12 tyX12_ok nmX12 9 (by decide) fl_X12_111 rfl rfl rfl (Nat.le_of_ble_eq_true rfl) rfl rfl rfl dX12_scans_120 (fun H locs hP hD hS => ?_)
                    refine lv_goto (tgt := 62) zx zb dX12_scans_123 (by decide) ?_
                    exact ih62 (r + 1) ((0 : Int32).toInt64) (by have h9 : r < M.2.1 := hrn.1; omega) (run_b hrun hrn.2) (by first | exact hV_s hr.1 c_83 hh | exact fun q => absurd c_83 (by omega)) (by have h9 : r < M.2.1 := hrn.1; omega) _ _ hP hD hS _ (lv_sub hl [1, 0] rfl)
            exact L62 _ p ((0 : Int32).toInt64) (⟨Nat.le_refl _, by omega⟩) (fun i h1 h2 => absurd h1 (by omega)) (fun _ => by rw [Nat.sub_self]; rfl) (Nat.lt_succ_self _) _ _ hP hD hS _ (lv_sub hl [1, 0] rfl)
        · have c_40 : p = M.2.1 := (nI_eq (a := p) (b := M.2.1) (by omega) (by omega)).mp c_40
          refine lv_aload_n zx zb dX12_scans_43 rfl (lv_at hl 0 rfl) ?_
          refine lv_iconst (v := nI 0) zx zb dX12_scans_44 (by decide) ?_
          refine g_put (v := .int (nI 0)) (blk' := bMo Γ m (M.1, M.2.1, p, p, 0, M.2.2.2.2.2.1, M.2.2.2.2.2.2)) (bs' := [bMo Γ m (M.1, M.2.1, p, p, 0, M.2.2.2.2.2.1, M.2.2.2.2.2.2), bA Γ (m 7) 150 g]) XX hP hD hS 0 0 rfl rfl rfl iwX12 tyX12_ok nmX12 11 (by decide) fl_X12_133 rfl rfl rfl (Nat.le_of_ble_eq_true rfl) rfl rfl rfl dX12_scans_45 (fun H locs hP hD hS => ?_)
          exact fin _ _ (M.1, M.2.1, p, p, 0, M.2.2.2.2.2.1, M.2.2.2.2.2.2) 48 _ dX12_scans_48 (⟨⟨rfl, rfl, rfl⟩, sc_1 eq (by omega) rfl rfl rfl⟩) hP hD hS
      · have c_8 : (atB (M.1, M.2.1, p, M.2.2.2.1, M.2.2.2.2.1, M.2.2.2.2.2.1, M.2.2.2.2.2.2) g 32 32) = true := bI_ne c_8
        refine lv_aload_n zx zb dX12_scans_11 rfl (lv_at hl 0 rfl) ?_
        refine lv_dup zx zb dX12_scans_12 rfl ?_
        refine g_get (v := .int (nI p)) XX hP 0 0 rfl rfl rfl iwX12 9 (by decide) fl_X12_111 rfl dX12_scans_13 ?_
        refine lv_iconst (v := nI 1) zx zb dX12_scans_16 (by decide) ?_
        refine lv_iadd zx zb dX12_scans_17 ?_
        refine g_top (y := nI (p + 1)) (nI_add p 1) ?_
        refine g_put (v := .int (nI (p + 1))) (blk' := bMo Γ m (M.1, M.2.1, p + 1, M.2.2.2.1, M.2.2.2.2.1, M.2.2.2.2.2.1, M.2.2.2.2.2.2)) (bs' := [bMo Γ m (M.1, M.2.1, p + 1, M.2.2.2.1, M.2.2.2.2.1, M.2.2.2.2.2.1, M.2.2.2.2.2.2), bA Γ (m 7) 150 g]) XX hP hD hS 0 0 rfl rfl rfl iwX12 tyX12_ok nmX12 9 (by decide) fl_X12_111 rfl rfl rfl (Nat.le_of_ble_eq_true rfl) rfl rfl rfl dX12_scans_18 (fun H locs hP hD hS => ?_)
        refine lv_goto (tgt := 0) zx zb dX12_scans_21 (by decide) ?_
        exact ih0 (p + 1) (by have h9 : p < M.2.1 := (at_t c_8).1; omega) (sc_b hb c_8) (by have h9 : p < M.2.1 := (at_t c_8).1; omega) _ _ hP hD hS _ (lv_sub hl [0] rfl)
  exact L0 _ M.2.2.1 (⟨Nat.le_refl _, hp0⟩) (fun i h1 h2 => absurd h1 (by omega)) (Nat.lt_succ_self _) _ _ hP hD hS _ (lv_sub hl [0] rfl)
