theorem cv_X7_103 : CWV RX7 103 RX8 yX8_tellDike cX8_tellDike 4 (some (.int)) 2 := ⟨cd_X8_tellDike, im_X8_tellDike, se_X8_X8_tellDike_X8_tellDike, in_X8, ml_X7_103, by decide +kernel⟩
theorem cv_X7_106 : CWV RX7 106 RX8 yX8_tellWant cX8_tellWant 4 (some (.int)) 2 := ⟨cd_X8_tellWant, im_X8_tellWant, se_X8_X8_tellWant_X8_tellWant, in_X8, ml_X7_106, by decide +kernel⟩
theorem cv_X7_109 : CWV RX7 109 RX8 yX8_tellMoon cX8_tellMoon 3 (some (.int)) 1 := ⟨cd_X8_tellMoon, im_X8_tellMoon, se_X8_X8_tellMoon_X8_tellMoon, in_X8, ml_X7_109, by decide +kernel⟩
theorem cv_X7_112 : CWV RX7 112 RX8 yX8_tellTreaty cX8_tellTreaty 7 (some (.int)) 6 := ⟨cd_X8_tellTreaty, im_X8_tellTreaty, se_X8_X8_tellTreaty_X8_tellTreaty, in_X8, ml_X7_112, by decide +kernel⟩
theorem cv_X7_31 : CWV RX7 31 RX7 yX7_skipBlanks cX7_skipBlanks 1 none 0 := ⟨cd_X7_skipBlanks, im_X7_skipBlanks, se_X7_X7_skipBlanks_X7_skipBlanks, in_X7, ml_X7_31, by decide +kernel⟩
theorem cv_X7_37 : CWV RX7 37 RX7 yX7_takeToken cX7_takeToken 2 (some (.boolean)) 1 := ⟨cd_X7_takeToken, im_X7_takeToken, se_X7_X7_takeToken_X7_takeToken, in_X7, ml_X7_37, by decide +kernel⟩
theorem cv_X7_93 : CWV RX7 93 RX8 yX8_tellCoast cX8_tellCoast 3 (some (.int)) 1 := ⟨cd_X8_tellCoast, im_X8_tellCoast, se_X8_X8_tellCoast_X8_tellCoast, in_X8, ml_X7_93, by decide +kernel⟩
theorem cv_X7_99 : CWV RX7 99 RX8 yX8_tellCell cX8_tellCell 6 (some (.int)) 4 := ⟨cd_X8_tellCell, im_X8_tellCell, se_X8_X8_tellCell_X8_tellCell, in_X8, ml_X7_99, by decide +kernel⟩
set_option maxHeartbeats 4000000 in
set_option maxRecDepth 100000 in
theorem c_X7_parse (Γ : GG) (l : Launch) (t : Nat → Nat) (L : ScV) (K : AK) (hl0 : L.1 ≤ 150) : Cia K Γ l yX7_parse cX7_parse 3 (some (.int)) 8 174 0 0 [.ref (t 2)] [bSc Γ t L] (fun (r : Int32) (u : ScV) => paE L r u) (fun (u : ScV) => [bSc Γ t u]) := by
  refine Cia.of (ty := .int) rfl (by decide) (Nat.le_of_ble_eq_true rfl) ?_
  intro pp ee ss mm bb me cd AA QQ XX hLT hnm hA hP hD fin ls hl
  obtain ⟨zx, zb, hml, hown, hts, hK⟩ := id XX
  have hS : va_S AA ss.heap ss.heap [] := va_S.rf
  have hl : lv_has ls 3 [(0, .ref (t 2))] := hl
  refine lv_aload_n zx zb dX7_parse_0 rfl (lv_at hl 0 rfl) ?_
  refine lv_iconst (v := nI 0) zx zb dX7_parse_1 (by decide) ?_
  refine g_put (v := .int (nI 0)) (blk' := bSc Γ t (L.1, 0, L.2.2.1, L.2.2.2.1, L.2.2.2.2.1, L.2.2.2.2.2.1, L.2.2.2.2.2.2)) (bs' := [bSc Γ t (L.1, 0, L.2.2.1, L.2.2.2.1, L.2.2.2.2.1, L.2.2.2.2.2.1, L.2.2.2.2.2.2)]) XX hP hD hS 0 0 rfl rfl rfl iwX7 tyX7_ok nmX7 2 (by decide) fl_X7_21 rfl rfl rfl (Nat.le_of_ble_eq_true rfl) rfl rfl rfl dX7_parse_2 (fun H locs hP hD hS => ?_)
  refine lv_aload_n zx zb dX7_parse_5 rfl (lv_at hl 0 rfl) ?_
  refine lv_iconst (v := nI 0) zx zb dX7_parse_6 (by decide) ?_
  refine g_put (v := .int (nI 0)) (blk' := bSc Γ t (L.1, 0, 0, L.2.2.2.1, L.2.2.2.2.1, L.2.2.2.2.2.1, L.2.2.2.2.2.2)) (bs' := [bSc Γ t (L.1, 0, 0, L.2.2.2.1, L.2.2.2.2.1, L.2.2.2.2.2.1, L.2.2.2.2.2.2)]) XX hP hD hS 0 0 rfl rfl rfl iwX7 tyX7_ok nmX7 5 (by decide) fl_X7_25 rfl rfl rfl (Nat.le_of_ble_eq_true rfl) rfl rfl rfl dX7_parse_7 (fun H locs hP hD hS => ?_)
  refine lv_aload_n zx zb dX7_parse_10 rfl (lv_at hl 0 rfl) ?_
  refine lv_iconst (v := (-1)) zx zb dX7_parse_11 (by decide) ?_
  refine g_put (v := .int (-1)) (blk' := bSc Γ t (L.1, 0, 0, (-1), L.2.2.2.2.1, L.2.2.2.2.2.1, L.2.2.2.2.2.2)) (bs' := [bSc Γ t (L.1, 0, 0, (-1), L.2.2.2.2.1, L.2.2.2.2.2.1, L.2.2.2.2.2.2)]) XX hP hD hS 0 0 rfl rfl rfl iwX7 tyX7_ok nmX7 6 (by decide) fl_X7_28 rfl rfl rfl (Nat.le_of_ble_eq_true rfl) rfl rfl rfl dX7_parse_12 (fun H locs hP hD hS => ?_)
  refine lv_iconst (v := nI 0) zx zb dX7_parse_15 (by decide) ?_
  refine lv_istore_n (lv' := [(1, .int (nI 0)), (0, .ref (t 2))]) zx zb dX7_parse_16 rfl hl (by decide) rfl (fun ls hl => ?_)
  have L17 : ∀ (nn : Nat) (k : Nat) (L1 : ScV), (k ≤ 150) → (paI L L1 k) → 150 - k < nn → ∀ (H : Heap) (locs : List Loc), bP Γ [bSc Γ t L1] H → bD AA [bSc Γ t L1] → va_S AA ss.heap H locs → ∀ (ls : Array Slot), lv_has ls 3 [(0, .ref (t 2)), (1, .int (nI k))] → W pp l ee { frames := 8, cells := 0, slots := 0, locals := 174 } ss mm [.ref (t 2)].toArray bb me cd H locs 0 0 QQ (F0 mm 17 ls []) := by
    intro nn
    induction nn with
    | zero => intro k L1 hk hI hm; exact absurd hm (Nat.not_lt_zero _)
    | succ nn ih17 =>
      intro k L1 hk hI hm17 H locs hP hD hS ls hl
      obtain ⟨pb1, pb2, pb3, pb4⟩ := pa_b hI
      obtain ⟨⟨e1, e2⟩, S, hSt, hR, hp, hk9⟩ := id hI
      have hb9 := pI_d (pR_I hSt)
      have hnx := nxt_le (g := L1.2.2.2.2.1) (n := L1.1) (p := L1.2.2.1) (by omega)
      refine lv_iload_n zx zb dX7_parse_17 rfl (lv_at hl 1 rfl) ?_
      refine lv_sipush (v := nI 150) zx zb dX7_parse_18 (by decide) ?_
      refine lv_icmp_ge (tgt := 71) zx zb dX7_parse_21 (by decide) (fun c_21 => ?_) (fun c_21 => ?_)
      · have c_21 : 150 ≤ k := (nI_leI (a := 150) (b := k) (by omega) (by omega)).mp c_21
        refine lv_aload_n zx zb dX7_parse_71 rfl (lv_at hl 0 rfl) ?_
        refine g_get (v := .int L1.2.2.2.1) XX hP 0 0 rfl rfl rfl iwX7 6 (by decide) fl_X7_28 rfl dX7_parse_72 ?_
        refine lv_iconst (v := (-1)) zx zb dX7_parse_75 (by decide) ?_
        refine lv_icmp_ne (tgt := 90) zx zb dX7_parse_76 (by decide) (fun c_76 => ?_) (fun c_76 => ?_)
        · have c_76 : ¬ (L1.2.2.2.1 = (-1)) := c_76
          refine lv_aload_n zx zb dX7_parse_90 rfl (lv_at hl 0 rfl) ?_
          refine g_get (v := .int (nI (L1.1))) XX hP 0 0 rfl rfl rfl iwX7 1 (by decide) fl_X7_34 rfl dX7_parse_91 ?_
          exact fin _ _ (nI (L1.1)) L1 94 _ dX7_parse_94 (rfl) (pa_f ⟨e1, e2⟩ hSt hR (nxt_n (pR_I hSt).1 (by have h8 := (pR_I hSt).1; omega)) (Or.inl c_76) hb9) hP hD hS
        · have c_76 : L1.2.2.2.1 = (-1) := c_76
          refine lv_aload_n zx zb dX7_parse_79 rfl (lv_at hl 0 rfl) ?_
          refine g_get (v := .int (nI (L1.2.1))) XX hP 0 0 rfl rfl rfl iwX7 2 (by decide) fl_X7_21 rfl dX7_parse_80 ?_
          refine lv_if_le (tgt := 90) zx zb dX7_parse_83 (by decide) (fun c_83 => ?_) (fun c_83 => ?_)
          · have c_83 : L1.2.1 ≤ 0 := (nI_leI (a := L1.2.1) (b := 0) (by omega) (by omega)).mp c_83
            refine lv_aload_n zx zb dX7_parse_90 rfl (lv_at hl 0 rfl) ?_
            refine g_get (v := .int (nI (L1.1))) XX hP 0 0 rfl rfl rfl iwX7 1 (by decide) fl_X7_34 rfl dX7_parse_91 ?_
            exact fin _ _ (nI (L1.1)) L1 94 _ dX7_parse_94 (rfl) (pa_f ⟨e1, e2⟩ hSt hR (nxt_n (pR_I hSt).1 (by have h8 := (pR_I hSt).1; omega)) (Or.inr c_83) hb9) hP hD hS
          · have c_83 : ¬ (L1.2.1 ≤ 0) := fun h => c_83 ((nI_leI (a := L1.2.1) (b := 0) (by omega) (by omega)).mpr h)
            refine lv_iconst (v := (-1)) zx zb dX7_parse_86 (by decide) ?_
            refine lv_goto (tgt := 94) zx zb dX7_parse_87 (by decide) ?_
            exact fin _ _ (-1) L1 94 _ dX7_parse_94 (rfl) (pa_t ⟨e1, e2⟩ hSt hR (nxt_n (pR_I hSt).1 (by have h8 := (pR_I hSt).1; omega)) c_76 c_83 hb9) hP hD hS
      · have c_21 : ¬ (150 ≤ k) := fun h => c_21 ((nI_leI (a := 150) (b := k) (by omega) (by omega)).mpr h)
        refine lv_aload_n zx zb dX7_parse_24 rfl (lv_at hl 0 rfl) ?_
        refine call_Vv (As := []) (rest := []) XX cv_X7_31 (c_X7_skipBlanks Γ l t L1 (by omega) (by omega)) hP hD hS hA [0] (by decide) rfl (fun _ => rfl) 0 0 rfl rfl rfl rfl hl.1 rfl ⟨⟨by decide, by decide⟩, by decide, by decide⟩ (Nat.le_of_ble_eq_true rfl) dX7_parse_25 (fun u H locs hw hP hD hS => ?_)
        have hw := hw.symm
        subst hw
        have hP : bP Γ [bSc Γ t (L1.1, L1.2.1, nxt L1.2.2.2.2.1 L1.1 L1.2.2.1, L1.2.2.2.1, L1.2.2.2.2.1, L1.2.2.2.2.2.1, L1.2.2.2.2.2.2)] H := hP
        have hD : bD AA [bSc Γ t (L1.1, L1.2.1, nxt L1.2.2.2.2.1 L1.1 L1.2.2.1, L1.2.2.2.1, L1.2.2.2.2.1, L1.2.2.2.2.2.1, L1.2.2.2.2.2.2)] := hD
        refine lv_aload_n zx zb dX7_parse_28 rfl (lv_at hl 0 rfl) ?_
        refine g_get (v := .int (nI (nxt L1.2.2.2.2.1 L1.1 L1.2.2.1))) XX hP 0 0 rfl rfl rfl iwX7 5 (by decide) fl_X7_25 rfl dX7_parse_29 ?_
        refine lv_aload_n zx zb dX7_parse_32 rfl (lv_at hl 0 rfl) ?_
        refine g_get (v := .int (nI (L1.1))) XX hP 0 0 rfl rfl rfl iwX7 1 (by decide) fl_X7_34 rfl dX7_parse_33 ?_
        refine lv_icmp_lt (tgt := 42) zx zb dX7_parse_36 (by decide) (fun c_36 => ?_) (fun c_36 => ?_)
        · have c_36 : nxt L1.2.2.2.2.1 L1.1 L1.2.2.1 < L1.1 := (nI_ltI (a := nxt L1.2.2.2.2.1 L1.1 L1.2.2.1) (b := L1.1) (by omega) (by omega)).mp c_36
          have hq9 : nxt L.2.2.2.2.1 L.1 S.1 < L.1 := by rw [← e1, ← e2, ← hp]; exact c_36
          refine lv_aload_n zx zb dX7_parse_42 rfl (lv_at hl 0 rfl) ?_
          refine g_get (v := .int (nI (nxt L1.2.2.2.2.1 L1.1 L1.2.2.1))) XX hP 0 0 rfl rfl rfl iwX7 5 (by decide) fl_X7_25 rfl dX7_parse_43 ?_
          refine lv_istore_n (lv' := [(2, .int (nI (nxt L1.2.2.2.2.1 L1.1 L1.2.2.1))), (0, .ref (t 2)), (1, .int (nI k))]) zx zb dX7_parse_46 rfl hl (by decide) rfl (fun ls hl => ?_)
          refine lv_aload_n zx zb dX7_parse_47 rfl (lv_at hl 1 rfl) ?_
          refine lv_aload_n zx zb dX7_parse_48 rfl (lv_at hl 1 rfl) ?_
          refine g_get (v := .ref (t 4)) XX hP 0 0 rfl rfl rfl iwX7 0 (by decide) fl_X7_9 rfl dX7_parse_49 ?_
          refine lv_aload_n zx zb dX7_parse_52 rfl (lv_at hl 1 rfl) ?_
          refine g_get (v := .int (nI (nxt L1.2.2.2.2.1 L1.1 L1.2.2.1))) XX hP 0 0 rfl rfl rfl iwX7 5 (by decide) fl_X7_25 rfl dX7_parse_53 ?_
          refine g_ialdN (i := nxt L1.2.2.2.2.1 L1.1 L1.2.2.1) XX hP 0 1 rfl rfl (by omega) (by decide) dX7_parse_56 ?_
          refine call_ViA (As := [.int (L1.2.2.2.2.1 (nxt L1.2.2.2.2.1 L1.1 L1.2.2.1))]) (rest := []) XX hLT cv_X7_37 (c_X7_takeToken Γ l t (L1.1, L1.2.1, nxt L1.2.2.2.2.1 L1.1 L1.2.2.1, L1.2.2.2.1, L1.2.2.2.2.1, L1.2.2.2.2.2.1, L1.2.2.2.2.2.2) K S (L1.2.2.2.2.1 (nxt L1.2.2.2.2.1 L1.1 L1.2.2.1)) (hR) (show pI L1.1 S by rw [e1]; exact pR_I hSt) (show nxt L1.2.2.2.2.1 L1.1 S.1 = nxt L1.2.2.2.2.1 L1.1 L1.2.2.1 by rw [hp]) (c_36) (show L1.1 ≤ 150 by omega) (rfl)) hP hD hS hA [0] (by decide) rfl (fun _ => rfl) 0 0 rfl rfl rfl rfl hl.1 rfl ⟨⟨by decide, by decide⟩, by decide, by decide⟩ (Nat.le_of_ble_eq_true rfl) dX7_parse_57 (fun r_57 u H locs hw hP hD hS => ?_)
          obtain ⟨u_57, rfl⟩ : ∃ z, z = u := ⟨_, rfl⟩
          have w_57 := hw
          have hP : bP Γ [bSc Γ t u_57] H := hP
          have hD : bD AA [bSc Γ t u_57] := hD
          refine lv_if_ne (tgt := 65) zx zb dX7_parse_60 (by decide) (fun c_60 => ?_) (fun c_60 => ?_)
          · have c_60 : ¬ (r_57 = (0 : Int32)) := c_60
            refine lv_iinc (v := nI (k + 1)) (lv' := [(1, .int (nI (k + 1))), (2, .int (nI (nxt L1.2.2.2.2.1 L1.1 L1.2.2.1))), (0, .ref (t 2))]) zx zb dX7_parse_65 hl (k := 2) rfl (nI_inc _ 1) (by decide) rfl (fun ls hl => ?_)
            refine lv_goto (tgt := 17) zx zb dX7_parse_68 (by decide) ?_
            exact ih17 (k + 1) u_57 (by omega) (pa_s e1 e2 hSt hk9 w_57 c_60) (by omega) _ _ hP hD hS _ (lv_sub hl [2, 0] rfl)
          · have c_60 : r_57 = (0 : Int32) := c_60
            refine lv_iload_n zx zb dX7_parse_63 rfl (lv_at hl 0 rfl) ?_
            exact fin _ _ (nI (nxt L1.2.2.2.2.1 L1.1 L1.2.2.1)) u_57 64 _ dX7_parse_64 (rfl) (by rw [e1, e2, hp]; exact pa_no e1 e2 hSt hq9 w_57 c_60) hP hD hS
        · have c_36 : ¬ (nxt L1.2.2.2.2.1 L1.1 L1.2.2.1 < L1.1) := fun h => c_36 ((nI_ltI (a := nxt L1.2.2.2.2.1 L1.1 L1.2.2.1) (b := L1.1) (by omega) (by omega)).mpr h)
          refine lv_goto (tgt := 71) zx zb dX7_parse_39 (by decide) ?_
          refine lv_aload_n zx zb dX7_parse_71 rfl (lv_at hl 0 rfl) ?_
          refine g_get (v := .int L1.2.2.2.1) XX hP 0 0 rfl rfl rfl iwX7 6 (by decide) fl_X7_28 rfl dX7_parse_72 ?_
          refine lv_iconst (v := (-1)) zx zb dX7_parse_75 (by decide) ?_
          refine lv_icmp_ne (tgt := 90) zx zb dX7_parse_76 (by decide) (fun c_76 => ?_) (fun c_76 => ?_)
          · have c_76 : ¬ (L1.2.2.2.1 = (-1)) := c_76
            refine lv_aload_n zx zb dX7_parse_90 rfl (lv_at hl 0 rfl) ?_
            refine g_get (v := .int (nI (L1.1))) XX hP 0 0 rfl rfl rfl iwX7 1 (by decide) fl_X7_34 rfl dX7_parse_91 ?_
            exact fin _ _ (nI (L1.1)) (L1.1, L1.2.1, nxt L1.2.2.2.2.1 L1.1 L1.2.2.1, L1.2.2.2.1, L1.2.2.2.2.1, L1.2.2.2.2.2.1, L1.2.2.2.2.2.2) 94 _ dX7_parse_94 (rfl) (pa_f ⟨e1, e2⟩ hSt hR (by rw [← e1, ← e2, ← hp]; omega) (Or.inl c_76) hb9) hP hD hS
          · have c_76 : L1.2.2.2.1 = (-1) := c_76
            refine lv_aload_n zx zb dX7_parse_79 rfl (lv_at hl 0 rfl) ?_
            refine g_get (v := .int (nI (L1.2.1))) XX hP 0 0 rfl rfl rfl iwX7 2 (by decide) fl_X7_21 rfl dX7_parse_80 ?_
            refine lv_if_le (tgt := 90) zx zb dX7_parse_83 (by decide) (fun c_83 => ?_) (fun c_83 => ?_)
            · have c_83 : L1.2.1 ≤ 0 := (nI_leI (a := L1.2.1) (b := 0) (by omega) (by omega)).mp c_83
              refine lv_aload_n zx zb dX7_parse_90 rfl (lv_at hl 0 rfl) ?_
              refine g_get (v := .int (nI (L1.1))) XX hP 0 0 rfl rfl rfl iwX7 1 (by decide) fl_X7_34 rfl dX7_parse_91 ?_
              exact fin _ _ (nI (L1.1)) (L1.1, L1.2.1, nxt L1.2.2.2.2.1 L1.1 L1.2.2.1, L1.2.2.2.1, L1.2.2.2.2.1, L1.2.2.2.2.2.1, L1.2.2.2.2.2.2) 94 _ dX7_parse_94 (rfl) (pa_f ⟨e1, e2⟩ hSt hR (by rw [← e1, ← e2, ← hp]; omega) (Or.inr c_83) hb9) hP hD hS
            · have c_83 : ¬ (L1.2.1 ≤ 0) := fun h => c_83 ((nI_leI (a := L1.2.1) (b := 0) (by omega) (by omega)).mpr h)
              refine lv_iconst (v := (-1)) zx zb dX7_parse_86 (by decide) ?_
              refine lv_goto (tgt := 94) zx zb dX7_parse_87 (by decide) ?_
              exact fin _ _ (-1) (L1.1, L1.2.1, nxt L1.2.2.2.2.1 L1.1 L1.2.2.1, L1.2.2.2.1, L1.2.2.2.2.1, L1.2.2.2.2.2.1, L1.2.2.2.2.2.2) 94 _ dX7_parse_94 (rfl) (pa_t ⟨e1, e2⟩ hSt hR (by rw [← e1, ← e2, ← hp]; omega) c_76 c_83 hb9) hP hD hS
  exact L17 _ 0 (L.1, 0, 0, (-1), L.2.2.2.2.1, L.2.2.2.2.2.1, L.2.2.2.2.2.2) (by omega) (pa_0 rfl rfl rfl rfl rfl) (Nat.lt_succ_self _) _ _ hP hD hS _ (lv_sub hl [1, 0] rfl)

set_option maxHeartbeats 4000000 in
set_option maxRecDepth 100000 in
theorem c_X7_tellItem (Γ : GG) (l : Launch) (t : Nat → Nat) (L : ScV) (x : Nat → Nat) (d : Nat → Nat) (k : Nat → Nat) (z : Nat → Nat) (p2 : Nat → Nat → Nat) (pc2 : Nat) (E : CoV) (T : Nat → TrV) (Z : YrV) (i : Nat) (w : Nat) (v : Nat → Int32) (hB9 : tB (E, T, Z)) (hi : i < 25) (hw6 : w < 6) (hw : L.2.2.2.2.2.2 i = nI w) (hv : ∀ j, j < nbN w → L.2.2.2.2.2.1 (i * 6 + j) = v j) : Ci Γ l yX7_tellItem cX7_tellItem 8 (some (.int)) 5 116 0 0 [.ref (t 2), .ref (x 0), .int (nI i)] [bSc Γ t L, bSt Γ x d z p2 pc2, bCo Γ d k E, bTs Γ d k T, bKd Γ k, bYr Γ z Z] (fun (r : Int32) (u : St3) => r = tIR w v (E, T, Z) ∧ u = tIX w v (E, T, Z)) (fun (u : St3) => [bSc Γ t L, bSt Γ x d z p2 pc2, bCo Γ d k u.1, bTs Γ d k u.2.1, bKd Γ k, bYr Γ z u.2.2]) := by
  refine Ci.of (Or.inl rfl) (by decide) (Nat.le_of_ble_eq_true rfl) ?_
  intro pp ee ss mm bb me cd AA QQ XX hnm hA hP hD fin ls hl
  obtain ⟨zx, zb, hml, hown, hts, hK⟩ := id XX
  have hS : va_S AA ss.heap ss.heap [] := va_S.rf
  have hl : lv_has ls 8 [(0, .ref (t 2)), (1, .ref (x 0)), (2, .int (nI i))] := hl
  refine lv_iload_n zx zb dX7_tellItem_0 rfl (lv_at hl 2 rfl) ?_
  refine lv_bipush (v := nI 6) zx zb dX7_tellItem_1 (by decide) ?_
  refine lv_imul zx zb dX7_tellItem_3 ?_
  refine g_top (y := nI (i * 6)) (pk_mul i 6) ?_
  refine lv_istore_n (lv' := [(3, .int (nI (i * 6))), (0, .ref (t 2)), (1, .ref (x 0)), (2, .int (nI i))]) zx zb dX7_tellItem_4 rfl hl (by decide) rfl (fun ls hl => ?_)
  refine lv_aload_n zx zb dX7_tellItem_5 rfl (lv_at hl 1 rfl) ?_
  refine g_get (v := .ref (t 5)) XX hP 0 0 rfl rfl rfl iwX7 3 (by decide) fl_X7_15 rfl dX7_tellItem_6 ?_
  refine lv_iload_n zx zb dX7_tellItem_9 rfl (lv_at hl 0 rfl) ?_
  refine g_ialdN (i := i * 6) XX hP 0 2 rfl rfl (by omega) (by decide) dX7_tellItem_10 ?_
  refine lv_istore (lv' := [(4, .int (L.2.2.2.2.2.1 (i * 6))), (3, .int (nI (i * 6))), (0, .ref (t 2)), (1, .ref (x 0)), (2, .int (nI i))]) zx zb dX7_tellItem_11 hl (by decide) rfl (fun ls hl => ?_)
  refine lv_aload_n zx zb dX7_tellItem_13 rfl (lv_at hl 2 rfl) ?_
  refine g_get (v := .ref (t 5)) XX hP 0 0 rfl rfl rfl iwX7 3 (by decide) fl_X7_15 rfl dX7_tellItem_14 ?_
  refine lv_iload_n zx zb dX7_tellItem_17 rfl (lv_at hl 1 rfl) ?_
  refine lv_iconst (v := nI 1) zx zb dX7_tellItem_18 (by decide) ?_
  refine lv_iadd zx zb dX7_tellItem_19 ?_
  refine g_top (y := nI (i * 6 + 1)) (nI_add (i * 6) 1) ?_
  refine g_ialdN (i := i * 6 + 1) XX hP 0 2 rfl rfl (by omega) (by decide) dX7_tellItem_20 ?_
  refine lv_istore (lv' := [(5, .int (L.2.2.2.2.2.1 (i * 6 + 1))), (4, .int (L.2.2.2.2.2.1 (i * 6))), (3, .int (nI (i * 6))), (0, .ref (t 2)), (1, .ref (x 0)), (2, .int (nI i))]) zx zb dX7_tellItem_21 hl (by decide) rfl (fun ls hl => ?_)
  refine lv_aload_n zx zb dX7_tellItem_23 rfl (lv_at hl 3 rfl) ?_
  refine g_get (v := .ref (t 5)) XX hP 0 0 rfl rfl rfl iwX7 3 (by decide) fl_X7_15 rfl dX7_tellItem_24 ?_
  refine lv_iload_n zx zb dX7_tellItem_27 rfl (lv_at hl 2 rfl) ?_
  refine lv_iconst (v := nI 2) zx zb dX7_tellItem_28 (by decide) ?_
  refine lv_iadd zx zb dX7_tellItem_29 ?_
  refine g_top (y := nI (i * 6 + 2)) (nI_add (i * 6) 2) ?_
  refine g_ialdN (i := i * 6 + 2) XX hP 0 2 rfl rfl (by omega) (by decide) dX7_tellItem_30 ?_
  refine lv_istore (lv' := [(6, .int (L.2.2.2.2.2.1 (i * 6 + 2))), (5, .int (L.2.2.2.2.2.1 (i * 6 + 1))), (4, .int (L.2.2.2.2.2.1 (i * 6))), (3, .int (nI (i * 6))), (0, .ref (t 2)), (1, .ref (x 0)), (2, .int (nI i))]) zx zb dX7_tellItem_31 hl (by decide) rfl (fun ls hl => ?_)
  refine lv_aload_n zx zb dX7_tellItem_33 rfl (lv_at hl 4 rfl) ?_
  refine g_get (v := .ref (t 5)) XX hP 0 0 rfl rfl rfl iwX7 3 (by decide) fl_X7_15 rfl dX7_tellItem_34 ?_
  refine lv_iload_n zx zb dX7_tellItem_37 rfl (lv_at hl 3 rfl) ?_
  refine lv_iconst (v := nI 3) zx zb dX7_tellItem_38 (by decide) ?_
  refine lv_iadd zx zb dX7_tellItem_39 ?_
  refine g_top (y := nI (i * 6 + 3)) (nI_add (i * 6) 3) ?_
  refine g_ialdN (i := i * 6 + 3) XX hP 0 2 rfl rfl (by omega) (by decide) dX7_tellItem_40 ?_
  refine lv_istore (lv' := [(7, .int (L.2.2.2.2.2.1 (i * 6 + 3))), (6, .int (L.2.2.2.2.2.1 (i * 6 + 2))), (5, .int (L.2.2.2.2.2.1 (i * 6 + 1))), (4, .int (L.2.2.2.2.2.1 (i * 6))), (3, .int (nI (i * 6))), (0, .ref (t 2)), (1, .ref (x 0)), (2, .int (nI i))]) zx zb dX7_tellItem_41 hl (by decide) rfl (fun ls hl => ?_)
  refine lv_aload_n zx zb dX7_tellItem_43 rfl (lv_at hl 5 rfl) ?_
  refine g_get (v := .ref (t 6)) XX hP 0 0 rfl rfl rfl iwX7 4 (by decide) fl_X7_18 rfl dX7_tellItem_44 ?_
  refine lv_iload_n zx zb dX7_tellItem_47 rfl (lv_at hl 7 rfl) ?_
  refine g_ialdN (i := i) XX hP 0 3 rfl rfl (by omega) (by decide) dX7_tellItem_48 ?_
  refine g_top (y := nI w) (hw) ?_
  rcases (show w = 0 ∨ w = 1 ∨ w = 2 ∨ w = 3 ∨ w = 4 ∨ w = 5 by omega) with hsp | hsp | hsp | hsp | hsp | hsp
  · subst hsp
    refine lv_tableIn (off := 35) (tgt := 84) zx zb dX7_tellItem_49 (by decide) (by decide) rfl (by decide) ?_
    refine lv_aload_n zx zb dX7_tellItem_84 rfl (lv_at hl 6 rfl) ?_
    refine lv_iload zx zb dX7_tellItem_85 (lv_at hl 3 rfl) ?_
    refine call_Vi (As := [.int (L.2.2.2.2.2.1 (i * 6))]) (rest := []) XX cv_X7_93 (c_X8_tellCoast Γ l x d k z p2 pc2 E Z (L.2.2.2.2.2.1 (i * 6)) ) hP hD hS hA [1, 2, 5] (by decide) rfl (fun _ => rfl) 1 0 rfl rfl rfl rfl hl.1 rfl ⟨⟨by decide, by decide⟩, by decide, by decide⟩ (Nat.le_of_ble_eq_true rfl) dX7_tellItem_87 (fun r_87 u H locs hw hP hD hS => ?_)
    obtain ⟨hw1, hw2⟩ := hw
    have hw1 := hw1.symm
    have hw2 := hw2.symm
    subst hw1
    subst hw2
    have hP : bP Γ [bSc Γ t L, bSt Γ x d z p2 pc2, bCo Γ d k ((tCo (L.2.2.2.2.2.1 (i * 6)) E Z).1), bTs Γ d k T, bKd Γ k, bYr Γ z ((tCo (L.2.2.2.2.2.1 (i * 6)) E Z).2)] H := hP
    have hD : bD AA [bSc Γ t L, bSt Γ x d z p2 pc2, bCo Γ d k ((tCo (L.2.2.2.2.2.1 (i * 6)) E Z).1), bTs Γ d k T, bKd Γ k, bYr Γ z ((tCo (L.2.2.2.2.2.1 (i * 6)) E Z).2)] := hD
    exact fin _ _ (tCoR (L.2.2.2.2.2.1 (i * 6)) E) ((tCo (L.2.2.2.2.2.1 (i * 6)) E Z).1, T, (tCo (L.2.2.2.2.2.1 (i * 6)) E Z).2) 90 _ dX7_tellItem_90 (fun h => by cases h) ⟨(by have e0 : L.2.2.2.2.2.1 (i * 6) = v 0 := hv 0 (by decide); rw [e0]; rfl), (by have e0 : L.2.2.2.2.2.1 (i * 6) = v 0 := hv 0 (by decide); rw [e0]; rfl)⟩ hP hD hS
  · subst hsp
    refine lv_tableIn (off := 42) (tgt := 91) zx zb dX7_tellItem_49 (by decide) (by decide) rfl (by decide) ?_
    refine lv_aload_n zx zb dX7_tellItem_91 rfl (lv_at hl 6 rfl) ?_
    refine lv_iload zx zb dX7_tellItem_92 (lv_at hl 3 rfl) ?_
    refine lv_iload zx zb dX7_tellItem_94 (lv_at hl 2 rfl) ?_
    refine lv_iload zx zb dX7_tellItem_96 (lv_at hl 1 rfl) ?_
    refine lv_iload zx zb dX7_tellItem_98 (lv_at hl 0 rfl) ?_
    refine call_Vi (As := [.int (L.2.2.2.2.2.1 (i * 6)), .int (L.2.2.2.2.2.1 (i * 6 + 1)), .int (L.2.2.2.2.2.1 (i * 6 + 2)), .int (L.2.2.2.2.2.1 (i * 6 + 3))]) (rest := []) XX cv_X7_99 (c_X8_tellCell Γ l x d k z p2 pc2 E Z (L.2.2.2.2.2.1 (i * 6)) (L.2.2.2.2.2.1 (i * 6 + 1)) (L.2.2.2.2.2.1 (i * 6 + 2)) (L.2.2.2.2.2.1 (i * 6 + 3)) (hB9.1)) hP hD hS hA [1, 2, 5] (by decide) rfl (fun _ => rfl) 1 0 rfl rfl rfl rfl hl.1 rfl ⟨⟨by decide, by decide⟩, by decide, by decide⟩ (Nat.le_of_ble_eq_true rfl) dX7_tellItem_100 (fun r_100 u H locs hw hP hD hS => ?_)
    obtain ⟨hw1, hw2⟩ := hw
    have hw1 := hw1.symm
    have hw2 := hw2.symm
    subst hw1
    subst hw2
    have hP : bP Γ [bSc Γ t L, bSt Γ x d z p2 pc2, bCo Γ d k ((tCe E Z (L.2.2.2.2.2.1 (i * 6)) (L.2.2.2.2.2.1 (i * 6 + 1)) (L.2.2.2.2.2.1 (i * 6 + 2)) (L.2.2.2.2.2.1 (i * 6 + 3))).1), bTs Γ d k T, bKd Γ k, bYr Γ z ((tCe E Z (L.2.2.2.2.2.1 (i * 6)) (L.2.2.2.2.2.1 (i * 6 + 1)) (L.2.2.2.2.2.1 (i * 6 + 2)) (L.2.2.2.2.2.1 (i * 6 + 3))).2)] H := hP
    have hD : bD AA [bSc Γ t L, bSt Γ x d z p2 pc2, bCo Γ d k ((tCe E Z (L.2.2.2.2.2.1 (i * 6)) (L.2.2.2.2.2.1 (i * 6 + 1)) (L.2.2.2.2.2.1 (i * 6 + 2)) (L.2.2.2.2.2.1 (i * 6 + 3))).1), bTs Γ d k T, bKd Γ k, bYr Γ z ((tCe E Z (L.2.2.2.2.2.1 (i * 6)) (L.2.2.2.2.2.1 (i * 6 + 1)) (L.2.2.2.2.2.1 (i * 6 + 2)) (L.2.2.2.2.2.1 (i * 6 + 3))).2)] := hD
    exact fin _ _ (tCeR E (L.2.2.2.2.2.1 (i * 6)) (L.2.2.2.2.2.1 (i * 6 + 1)) (L.2.2.2.2.2.1 (i * 6 + 2)) (L.2.2.2.2.2.1 (i * 6 + 3))) ((tCe E Z (L.2.2.2.2.2.1 (i * 6)) (L.2.2.2.2.2.1 (i * 6 + 1)) (L.2.2.2.2.2.1 (i * 6 + 2)) (L.2.2.2.2.2.1 (i * 6 + 3))).1, T, (tCe E Z (L.2.2.2.2.2.1 (i * 6)) (L.2.2.2.2.2.1 (i * 6 + 1)) (L.2.2.2.2.2.1 (i * 6 + 2)) (L.2.2.2.2.2.1 (i * 6 + 3))).2) 103 _ dX7_tellItem_103 (fun h => by cases h) ⟨(by have e0 : L.2.2.2.2.2.1 (i * 6) = v 0 := hv 0 (by decide); have e1 : L.2.2.2.2.2.1 (i * 6 + 1) = v 1 := hv 1 (by decide); have e2 : L.2.2.2.2.2.1 (i * 6 + 2) = v 2 := hv 2 (by decide); have e3 : L.2.2.2.2.2.1 (i * 6 + 3) = v 3 := hv 3 (by decide); rw [e0, e1, e2, e3]; rfl), (by have e0 : L.2.2.2.2.2.1 (i * 6) = v 0 := hv 0 (by decide); have e1 : L.2.2.2.2.2.1 (i * 6 + 1) = v 1 := hv 1 (by decide); have e2 : L.2.2.2.2.2.1 (i * 6 + 2) = v 2 := hv 2 (by decide); have e3 : L.2.2.2.2.2.1 (i * 6 + 3) = v 3 := hv 3 (by decide); rw [e0, e1, e2, e3]; rfl)⟩ hP hD hS
  · subst hsp
    refine lv_tableIn (off := 55) (tgt := 104) zx zb dX7_tellItem_49 (by decide) (by decide) rfl (by decide) ?_
    refine lv_aload_n zx zb dX7_tellItem_104 rfl (lv_at hl 6 rfl) ?_
    refine lv_iload zx zb dX7_tellItem_105 (lv_at hl 3 rfl) ?_
    refine lv_iload zx zb dX7_tellItem_107 (lv_at hl 2 rfl) ?_
    refine call_Vi (As := [.int (L.2.2.2.2.2.1 (i * 6)), .int (L.2.2.2.2.2.1 (i * 6 + 1))]) (rest := []) XX cv_X7_103 (c_X8_tellDike Γ l x d k z p2 pc2 E Z (L.2.2.2.2.2.1 (i * 6)) (L.2.2.2.2.2.1 (i * 6 + 1)) (hB9.1)) hP hD hS hA [1, 2, 5] (by decide) rfl (fun _ => rfl) 1 0 rfl rfl rfl rfl hl.1 rfl ⟨⟨by decide, by decide⟩, by decide, by decide⟩ (Nat.le_of_ble_eq_true rfl) dX7_tellItem_109 (fun r_109 u H locs hw hP hD hS => ?_)
    obtain ⟨hw1, hw2⟩ := hw
    have hw1 := hw1.symm
    have hw2 := hw2.symm
    subst hw1
    subst hw2
    have hP : bP Γ [bSc Γ t L, bSt Γ x d z p2 pc2, bCo Γ d k E, bTs Γ d k T, bKd Γ k, bYr Γ z (tDi E Z (L.2.2.2.2.2.1 (i * 6)) (L.2.2.2.2.2.1 (i * 6 + 1)))] H := hP
    have hD : bD AA [bSc Γ t L, bSt Γ x d z p2 pc2, bCo Γ d k E, bTs Γ d k T, bKd Γ k, bYr Γ z (tDi E Z (L.2.2.2.2.2.1 (i * 6)) (L.2.2.2.2.2.1 (i * 6 + 1)))] := hD
    exact fin _ _ (tDiR E Z (L.2.2.2.2.2.1 (i * 6)) (L.2.2.2.2.2.1 (i * 6 + 1))) (E, T, (tDi E Z (L.2.2.2.2.2.1 (i * 6)) (L.2.2.2.2.2.1 (i * 6 + 1)))) 112 _ dX7_tellItem_112 (fun h => by cases h) ⟨(by have e0 : L.2.2.2.2.2.1 (i * 6) = v 0 := hv 0 (by decide); have e1 : L.2.2.2.2.2.1 (i * 6 + 1) = v 1 := hv 1 (by decide); rw [e0, e1]; rfl), (by have e0 : L.2.2.2.2.2.1 (i * 6) = v 0 := hv 0 (by decide); have e1 : L.2.2.2.2.2.1 (i * 6 + 1) = v 1 := hv 1 (by decide); rw [e0, e1]; rfl)⟩ hP hD hS
  · subst hsp
    refine lv_tableIn (off := 64) (tgt := 113) zx zb dX7_tellItem_49 (by decide) (by decide) rfl (by decide) ?_
    refine lv_aload_n zx zb dX7_tellItem_113 rfl (lv_at hl 6 rfl) ?_
    refine lv_iload zx zb dX7_tellItem_114 (lv_at hl 3 rfl) ?_
    refine lv_iload zx zb dX7_tellItem_116 (lv_at hl 2 rfl) ?_
    refine call_Vi (As := [.int (L.2.2.2.2.2.1 (i * 6)), .int (L.2.2.2.2.2.1 (i * 6 + 1))]) (rest := []) XX cv_X7_106 (c_X8_tellWant Γ l x d k z p2 pc2 E (L.2.2.2.2.2.1 (i * 6)) (L.2.2.2.2.2.1 (i * 6 + 1)) ) hP hD hS hA [1, 2] (by decide) rfl (fun _ => rfl) 1 0 rfl rfl rfl rfl hl.1 rfl ⟨⟨by decide, by decide⟩, by decide, by decide⟩ (Nat.le_of_ble_eq_true rfl) dX7_tellItem_118 (fun r_118 u H locs hw hP hD hS => ?_)
    obtain ⟨hw1, hw2⟩ := hw
    have hw1 := hw1.symm
    have hw2 := hw2.symm
    subst hw1
    subst hw2
    have hP : bP Γ [bSc Γ t L, bSt Γ x d z p2 pc2, bCo Γ d k (tWa E (L.2.2.2.2.2.1 (i * 6)) (L.2.2.2.2.2.1 (i * 6 + 1))), bTs Γ d k T, bKd Γ k, bYr Γ z Z] H := hP
    have hD : bD AA [bSc Γ t L, bSt Γ x d z p2 pc2, bCo Γ d k (tWa E (L.2.2.2.2.2.1 (i * 6)) (L.2.2.2.2.2.1 (i * 6 + 1))), bTs Γ d k T, bKd Γ k, bYr Γ z Z] := hD
    exact fin _ _ (tWaR E (L.2.2.2.2.2.1 (i * 6)) (L.2.2.2.2.2.1 (i * 6 + 1))) ((tWa E (L.2.2.2.2.2.1 (i * 6)) (L.2.2.2.2.2.1 (i * 6 + 1))), T, Z) 121 _ dX7_tellItem_121 (fun h => by cases h) ⟨(by have e0 : L.2.2.2.2.2.1 (i * 6) = v 0 := hv 0 (by decide); have e1 : L.2.2.2.2.2.1 (i * 6 + 1) = v 1 := hv 1 (by decide); rw [e0, e1]; rfl), (by have e0 : L.2.2.2.2.2.1 (i * 6) = v 0 := hv 0 (by decide); have e1 : L.2.2.2.2.2.1 (i * 6 + 1) = v 1 := hv 1 (by decide); rw [e0, e1]; rfl)⟩ hP hD hS
  · subst hsp
    refine lv_tableIn (off := 73) (tgt := 122) zx zb dX7_tellItem_49 (by decide) (by decide) rfl (by decide) ?_
    refine lv_aload_n zx zb dX7_tellItem_122 rfl (lv_at hl 6 rfl) ?_
    refine lv_iload zx zb dX7_tellItem_123 (lv_at hl 3 rfl) ?_
    refine call_Vi (As := [.int (L.2.2.2.2.2.1 (i * 6))]) (rest := []) XX cv_X7_109 (c_X8_tellMoon Γ l x d k z p2 pc2 E (L.2.2.2.2.2.1 (i * 6)) ) hP hD hS hA [1, 2] (by decide) rfl (fun _ => rfl) 1 0 rfl rfl rfl rfl hl.1 rfl ⟨⟨by decide, by decide⟩, by decide, by decide⟩ (Nat.le_of_ble_eq_true rfl) dX7_tellItem_125 (fun r_125 u H locs hw hP hD hS => ?_)
    obtain ⟨hw1, hw2⟩ := hw
    have hw1 := hw1.symm
    have hw2 := hw2.symm
    subst hw1
    subst hw2
    have hP : bP Γ [bSc Γ t L, bSt Γ x d z p2 pc2, bCo Γ d k (tMo E (L.2.2.2.2.2.1 (i * 6))), bTs Γ d k T, bKd Γ k, bYr Γ z Z] H := hP
    have hD : bD AA [bSc Γ t L, bSt Γ x d z p2 pc2, bCo Γ d k (tMo E (L.2.2.2.2.2.1 (i * 6))), bTs Γ d k T, bKd Γ k, bYr Γ z Z] := hD
    exact fin _ _ (tMoR E (L.2.2.2.2.2.1 (i * 6))) ((tMo E (L.2.2.2.2.2.1 (i * 6))), T, Z) 128 _ dX7_tellItem_128 (fun h => by cases h) ⟨(by have e0 : L.2.2.2.2.2.1 (i * 6) = v 0 := hv 0 (by decide); rw [e0]; rfl), (by have e0 : L.2.2.2.2.2.1 (i * 6) = v 0 := hv 0 (by decide); rw [e0]; rfl)⟩ hP hD hS
  · subst hsp
    refine lv_tableOut (tgt := 129) zx zb dX7_tellItem_49 (by decide) (by decide) ?_
    refine lv_aload_n zx zb dX7_tellItem_129 rfl (lv_at hl 6 rfl) ?_
    refine lv_iload zx zb dX7_tellItem_130 (lv_at hl 3 rfl) ?_
    refine lv_iload zx zb dX7_tellItem_132 (lv_at hl 2 rfl) ?_
    refine lv_iload zx zb dX7_tellItem_134 (lv_at hl 1 rfl) ?_
    refine lv_iload zx zb dX7_tellItem_136 (lv_at hl 0 rfl) ?_
    refine lv_aload_n zx zb dX7_tellItem_138 rfl (lv_at hl 5 rfl) ?_
    refine g_get (v := .ref (t 5)) XX hP 0 0 rfl rfl rfl iwX7 3 (by decide) fl_X7_15 rfl dX7_tellItem_139 ?_
    refine lv_iload_n zx zb dX7_tellItem_142 rfl (lv_at hl 4 rfl) ?_
    refine lv_iconst (v := nI 4) zx zb dX7_tellItem_143 (by decide) ?_
    refine lv_iadd zx zb dX7_tellItem_144 ?_
    refine g_top (y := nI (i * 6 + 4)) (nI_add (i * 6) 4) ?_
    refine g_ialdN (i := i * 6 + 4) XX hP 0 2 rfl rfl (by omega) (by decide) dX7_tellItem_145 ?_
    refine lv_aload_n zx zb dX7_tellItem_146 rfl (lv_at hl 5 rfl) ?_
    refine g_get (v := .ref (t 5)) XX hP 0 0 rfl rfl rfl iwX7 3 (by decide) fl_X7_15 rfl dX7_tellItem_147 ?_
    refine lv_iload_n zx zb dX7_tellItem_150 rfl (lv_at hl 4 rfl) ?_
    refine lv_iconst (v := nI 5) zx zb dX7_tellItem_151 (by decide) ?_
    refine lv_iadd zx zb dX7_tellItem_152 ?_
    refine g_top (y := nI (i * 6 + 5)) (nI_add (i * 6) 5) ?_
    refine g_ialdN (i := i * 6 + 5) XX hP 0 2 rfl rfl (by omega) (by decide) dX7_tellItem_153 ?_
    refine call_Vi (As := [.int (L.2.2.2.2.2.1 (i * 6)), .int (L.2.2.2.2.2.1 (i * 6 + 1)), .int (L.2.2.2.2.2.1 (i * 6 + 2)), .int (L.2.2.2.2.2.1 (i * 6 + 3)), .int (L.2.2.2.2.2.1 (i * 6 + 4)), .int (L.2.2.2.2.2.1 (i * 6 + 5))]) (rest := []) XX cv_X7_112 (c_X8_tellTreaty Γ l x d k z p2 pc2 E T (L.2.2.2.2.2.1 (i * 6)) (L.2.2.2.2.2.1 (i * 6 + 1)) (L.2.2.2.2.2.1 (i * 6 + 2)) (L.2.2.2.2.2.1 (i * 6 + 3)) (L.2.2.2.2.2.1 (i * 6 + 4)) (L.2.2.2.2.2.1 (i * 6 + 5)) (hB9.2.1)) hP hD hS hA [1, 2, 3, 4] (by decide) rfl (fun _ => rfl) 1 0 rfl rfl rfl rfl hl.1 rfl ⟨⟨by decide, by decide⟩, by decide, by decide⟩ (Nat.le_of_ble_eq_true rfl) dX7_tellItem_154 (fun r_154 u H locs hw hP hD hS => ?_)
    obtain ⟨hw1, hw2⟩ := hw
    have hw1 := hw1.symm
    have hw2 := hw2.symm
    subst hw1
    subst hw2
    have hP : bP Γ [bSc Γ t L, bSt Γ x d z p2 pc2, bCo Γ d k ((tTr E T (L.2.2.2.2.2.1 (i * 6)) (L.2.2.2.2.2.1 (i * 6 + 1)) (L.2.2.2.2.2.1 (i * 6 + 2)) (L.2.2.2.2.2.1 (i * 6 + 3)) (L.2.2.2.2.2.1 (i * 6 + 4)) (L.2.2.2.2.2.1 (i * 6 + 5))).1), bTs Γ d k ((tTr E T (L.2.2.2.2.2.1 (i * 6)) (L.2.2.2.2.2.1 (i * 6 + 1)) (L.2.2.2.2.2.1 (i * 6 + 2)) (L.2.2.2.2.2.1 (i * 6 + 3)) (L.2.2.2.2.2.1 (i * 6 + 4)) (L.2.2.2.2.2.1 (i * 6 + 5))).2), bKd Γ k, bYr Γ z Z] H := hP
    have hD : bD AA [bSc Γ t L, bSt Γ x d z p2 pc2, bCo Γ d k ((tTr E T (L.2.2.2.2.2.1 (i * 6)) (L.2.2.2.2.2.1 (i * 6 + 1)) (L.2.2.2.2.2.1 (i * 6 + 2)) (L.2.2.2.2.2.1 (i * 6 + 3)) (L.2.2.2.2.2.1 (i * 6 + 4)) (L.2.2.2.2.2.1 (i * 6 + 5))).1), bTs Γ d k ((tTr E T (L.2.2.2.2.2.1 (i * 6)) (L.2.2.2.2.2.1 (i * 6 + 1)) (L.2.2.2.2.2.1 (i * 6 + 2)) (L.2.2.2.2.2.1 (i * 6 + 3)) (L.2.2.2.2.2.1 (i * 6 + 4)) (L.2.2.2.2.2.1 (i * 6 + 5))).2), bKd Γ k, bYr Γ z Z] := hD
    exact fin _ _ (tTrR E (L.2.2.2.2.2.1 (i * 6)) (L.2.2.2.2.2.1 (i * 6 + 1)) (L.2.2.2.2.2.1 (i * 6 + 2)) (L.2.2.2.2.2.1 (i * 6 + 3)) (L.2.2.2.2.2.1 (i * 6 + 4)) (L.2.2.2.2.2.1 (i * 6 + 5))) ((tTr E T (L.2.2.2.2.2.1 (i * 6)) (L.2.2.2.2.2.1 (i * 6 + 1)) (L.2.2.2.2.2.1 (i * 6 + 2)) (L.2.2.2.2.2.1 (i * 6 + 3)) (L.2.2.2.2.2.1 (i * 6 + 4)) (L.2.2.2.2.2.1 (i * 6 + 5))).1, (tTr E T (L.2.2.2.2.2.1 (i * 6)) (L.2.2.2.2.2.1 (i * 6 + 1)) (L.2.2.2.2.2.1 (i * 6 + 2)) (L.2.2.2.2.2.1 (i * 6 + 3)) (L.2.2.2.2.2.1 (i * 6 + 4)) (L.2.2.2.2.2.1 (i * 6 + 5))).2, Z) 157 _ dX7_tellItem_157 (fun h => by cases h) ⟨(by have e0 : L.2.2.2.2.2.1 (i * 6) = v 0 := hv 0 (by decide); have e1 : L.2.2.2.2.2.1 (i * 6 + 1) = v 1 := hv 1 (by decide); have e2 : L.2.2.2.2.2.1 (i * 6 + 2) = v 2 := hv 2 (by decide); have e3 : L.2.2.2.2.2.1 (i * 6 + 3) = v 3 := hv 3 (by decide); have e4 : L.2.2.2.2.2.1 (i * 6 + 4) = v 4 := hv 4 (by decide); have e5 : L.2.2.2.2.2.1 (i * 6 + 5) = v 5 := hv 5 (by decide); rw [e0, e1, e2, e3, e4, e5]; rfl), (by have e0 : L.2.2.2.2.2.1 (i * 6) = v 0 := hv 0 (by decide); have e1 : L.2.2.2.2.2.1 (i * 6 + 1) = v 1 := hv 1 (by decide); have e2 : L.2.2.2.2.2.1 (i * 6 + 2) = v 2 := hv 2 (by decide); have e3 : L.2.2.2.2.2.1 (i * 6 + 3) = v 3 := hv 3 (by decide); have e4 : L.2.2.2.2.2.1 (i * 6 + 4) = v 4 := hv 4 (by decide); have e5 : L.2.2.2.2.2.1 (i * 6 + 5) = v 5 := hv 5 (by decide); rw [e0, e1, e2, e3, e4, e5]; rfl)⟩ hP hD hS
