theorem cs_X7_41 : CWS RX7 41 yX7_isLetter cX7_isLetter 1 (some (.boolean)) 1 := ⟨cd_X7_isLetter, st_X7_isLetter, in_X7, ml_X7_41, by decide +kernel⟩
theorem cs_X7_48 : CWS RX7 48 yX7_isFigure cX7_isFigure 1 (some (.boolean)) 1 := ⟨cd_X7_isFigure, st_X7_isFigure, in_X7, ml_X7_48, by decide +kernel⟩
theorem cn_X7_57 : CWSN RX7 57 yX11_within RX11 cX11_within 3 (some (.boolean)) 3 := ⟨cd_X11_within, st_X11_within, in_X11, nl_X7_57, by decide +kernel⟩
theorem cv_X7_44 : CWV RX7 44 RX7 yX7_takeWord cX7_takeWord 3 (some (.boolean)) 0 := ⟨cd_X7_takeWord, im_X7_takeWord, se_X7_X7_takeWord_X7_takeWord, in_X7, ml_X7_44, by decide +kernel⟩
theorem cv_X7_51 : CWV RX7 51 RX7 yX7_takeNumber cX7_takeNumber 4 (some (.boolean)) 0 := ⟨cd_X7_takeNumber, im_X7_takeNumber, se_X7_X7_takeNumber_X7_takeNumber, in_X7, ml_X7_51, by decide +kernel⟩
theorem cv_X7_54 : CWV RX7 54 RX7 yX7_takeEnd cX7_takeEnd 1 (some (.boolean)) 0 := ⟨cd_X7_takeEnd, im_X7_takeEnd, se_X7_X7_takeEnd_X7_takeEnd, in_X7, ml_X7_54, by decide +kernel⟩
theorem cv_X7_61 : CWV RX7 61 RX7 yX7_wordAt cX7_wordAt 3 (some (.int)) 2 := ⟨cd_X7_wordAt, im_X7_wordAt, se_X7_X7_wordAt_X7_wordAt, in_X7, ml_X7_61, by decide +kernel⟩
theorem cv_X7_70 : CWV RX7 70 RX7 yX7_spells cX7_spells 5 (some (.boolean)) 3 := ⟨cd_X7_spells, im_X7_spells, se_X7_X7_spells_X7_spells, in_X7, ml_X7_70, by decide +kernel⟩
theorem cv_X7_84 : CWV RX7 84 RJ0 yJ0_length_8abf5 cJ0_length_8abf5 1 (some (.int)) 0 := ⟨cd_J0_length_8abf5, im_J0_length_8abf5, se_J0_J0_length_8abf5_J0_length_8abf5, in_J0, ml_X7_84, by decide +kernel⟩
theorem cv_X7_89 : CWV RX7 89 RJ0 yJ0_charAt_5068e cJ0_charAt_5068e 2 (some (.char)) 1 := ⟨cd_J0_charAt_5068e, im_J0_charAt_5068e, se_J0_J0_charAt_5068e_J0_charAt_5068e, in_J0, ml_X7_89, by decide +kernel⟩
set_option maxHeartbeats 4000000 in
set_option maxRecDepth 100000 in
theorem c_X7_isLetter (Γ : GG) (l : Launch) (a : Int32)  : Ci Γ l yX7_isLetter cX7_isLetter 1 (some (.boolean)) 1 22 0 0 [.int a] [] (fun (r : Int32) (u : Unit) => r = bI (isL a)) (fun (u : Unit) => []) := by
  refine Ci.of (Or.inr rfl) (by decide) (Nat.le_of_ble_eq_true rfl) ?_
  intro pp ee ss mm bb me cd AA QQ XX hnm hA hP hD fin ls hl
  obtain ⟨zx, zb, hml, hown, hts, hK⟩ := id XX
  have hS : va_S AA ss.heap ss.heap [] := va_S.rf
  have hl : lv_has ls 1 [(0, .int a)] := hl
  refine lv_iload_n zx zb dX7_isLetter_0 rfl (lv_at hl 0 rfl) ?_
  refine lv_bipush (v := nI 97) zx zb dX7_isLetter_1 (by decide) ?_
  refine lv_bipush (v := nI 122) zx zb dX7_isLetter_3 (by decide) ?_
  refine callR_SNi (As := [.int a, .int (nI 97), .int (nI 122)]) (rest := []) XX cn_X7_57 (c_X11_within Γ l a 97 122 ) hP hD hS hA nil_mem nil_D rfl hl.1 rfl ⟨⟨by decide, by decide⟩, by decide, by decide⟩ (Nat.le_of_ble_eq_true rfl) dX7_isLetter_5 (fun r_5 H locs hw hP hS => ?_)
  have hw := hw.symm
  subst hw
  exact fin _ _ (bI (wi a 97 122)) () 8 _ dX7_isLetter_8 (fun _ => bI_narrow _) (rfl) hP hD hS

set_option maxHeartbeats 4000000 in
set_option maxRecDepth 100000 in
theorem c_X7_isFigure (Γ : GG) (l : Launch) (a : Int32)  : Ci Γ l yX7_isFigure cX7_isFigure 1 (some (.boolean)) 1 22 0 0 [.int a] [] (fun (r : Int32) (u : Unit) => r = bI (isF a)) (fun (u : Unit) => []) := by
  refine Ci.of (Or.inr rfl) (by decide) (Nat.le_of_ble_eq_true rfl) ?_
  intro pp ee ss mm bb me cd AA QQ XX hnm hA hP hD fin ls hl
  obtain ⟨zx, zb, hml, hown, hts, hK⟩ := id XX
  have hS : va_S AA ss.heap ss.heap [] := va_S.rf
  have hl : lv_has ls 1 [(0, .int a)] := hl
  refine lv_iload_n zx zb dX7_isFigure_0 rfl (lv_at hl 0 rfl) ?_
  refine lv_bipush (v := nI 48) zx zb dX7_isFigure_1 (by decide) ?_
  refine lv_bipush (v := nI 57) zx zb dX7_isFigure_3 (by decide) ?_
  refine callR_SNi (As := [.int a, .int (nI 48), .int (nI 57)]) (rest := []) XX cn_X7_57 (c_X11_within Γ l a 48 57 ) hP hD hS hA nil_mem nil_D rfl hl.1 rfl ⟨⟨by decide, by decide⟩, by decide, by decide⟩ (Nat.le_of_ble_eq_true rfl) dX7_isFigure_5 (fun r_5 H locs hw hP hS => ?_)
  have hw := hw.symm
  subst hw
  exact fin _ _ (bI (wi a 48 57)) () 8 _ dX7_isFigure_8 (fun _ => bI_narrow _) (rfl) hP hD hS

set_option maxHeartbeats 4000000 in
set_option maxRecDepth 100000 in
theorem c_X7_spells (Γ : GG) (l : Launch) (t : Nat → Nat) (L : ScV) (K : AK) (i : Nat) (q : Nat) (e : Nat) (hi : i < 6) (hqe : q ≤ e) (hel : e ≤ 150) : Cia K Γ l yX7_spells cX7_spells 5 (some (.boolean)) 4 85 0 0 [.ref (t 2), .ref (K.1 i), .int (nI q), .int (nI e)] [bSc Γ t L] (fun (r : Int32) (u : Unit) => r = bI (spl (wdL i) L.2.2.2.2.1 q e)) (fun (u : Unit) => [bSc Γ t L]) := by
  refine Cia.of (ty := .boolean) rfl (by decide) (Nat.le_of_ble_eq_true rfl) ?_
  intro pp ee ss mm bb me cd AA QQ XX hLT hnm hA hP hD fin ls hl
  obtain ⟨zx, zb, hml, hown, hts, hK⟩ := id XX
  have hS : va_S AA ss.heap ss.heap [] := va_S.rf
  have hl : lv_has ls 5 [(0, .ref (t 2)), (1, .ref (K.1 i)), (2, .int (nI q)), (3, .int (nI e))] := hl
  have hl6 := len_6 i hi
  have hlw := len_w i hi
  refine lv_aload_n zx zb dX7_spells_0 rfl (lv_at hl 1 rfl) ?_
  refine call_ViL (i := i) (As := []) (rest := []) XX hLT cv_X7_84 (hi) (c_J0_length_8abf5 Γ l K i (hi)) hP hD hS hA rfl hl.1 rfl ⟨⟨by decide, by decide⟩, by decide, by decide⟩ (Nat.le_of_ble_eq_true rfl) dX7_spells_1 (fun r_1 H locs hw hP hS => ?_)
  have hw := hw.symm
  subst hw
  refine lv_iload_n zx zb dX7_spells_4 rfl (lv_at hl 3 rfl) ?_
  refine lv_iload_n zx zb dX7_spells_5 rfl (lv_at hl 2 rfl) ?_
  refine lv_isub zx zb dX7_spells_6 ?_
  refine g_top (y := nI (e - q)) (pk_sub (by omega)) ?_
  refine lv_icmp_eq (tgt := 12) zx zb dX7_spells_7 (by decide) (fun c_7 => ?_) (fun c_7 => ?_)
  · have c_7 : lenA.getD i 0 = e - q := (nI_eq (a := lenA.getD i 0) (b := e - q) (by omega) (by omega)).mp c_7
    refine lv_iload_n zx zb dX7_spells_12 rfl (lv_at hl 2 rfl) ?_
    refine lv_istore (lv' := [(4, .int (nI q)), (0, .ref (t 2)), (1, .ref (K.1 i)), (2, .int (nI q)), (3, .int (nI e))]) zx zb dX7_spells_13 hl (by decide) rfl (fun ls hl => ?_)
    have L15 : ∀ (nn : Nat) (j : Nat), (q ≤ j ∧ j ≤ e) → (∀ x, q ≤ x → x < j → L.2.2.2.2.1 x = (wdL i).getD (x - q) 0) → e - j < nn → ∀ (H : Heap) (locs : List Loc), bP Γ [bSc Γ t L] H → bD AA [bSc Γ t L] → va_S AA ss.heap H locs → ∀ (ls : Array Slot), lv_has ls 5 [(0, .ref (t 2)), (1, .ref (K.1 i)), (2, .int (nI q)), (3, .int (nI e)), (4, .int (nI j))] → W pp l ee { frames := 4, cells := 0, slots := 0, locals := 85 } ss mm [.ref (t 2), .ref (K.1 i), .int (nI q), .int (nI e)].toArray bb me cd H locs 0 0 QQ (F0 mm 15 ls []) := by
      intro nn
      induction nn with
      | zero => intro j hj hs hm; exact absurd hm (Nat.not_lt_zero _)
      | succ nn ih15 =>
        intro j hj hs hm15 H locs hP hD hS ls hl
        refine lv_iload zx zb dX7_spells_15 (lv_at hl 4 rfl) ?_
        refine lv_iload_n zx zb dX7_spells_17 rfl (lv_at hl 3 rfl) ?_
        refine lv_icmp_ge (tgt := 47) zx zb dX7_spells_18 (by decide) (fun c_18 => ?_) (fun c_18 => ?_)
        · have c_18 : e ≤ j := (nI_leI (a := e) (b := j) (by omega) (by omega)).mp c_18
          refine lv_iconst (v := nI 1) zx zb dX7_spells_47 (by decide) ?_
          exact fin _ _ (nI 1) () 48 _ dX7_spells_48 (nar1) (retT (sp_ys (hlw ▸ c_7) (fun x h1 h2 => hs x h1 (by omega)))) hP hD hS
        · have c_18 : ¬ (e ≤ j) := fun h => c_18 ((nI_leI (a := e) (b := j) (by omega) (by omega)).mpr h)
          refine lv_aload_n zx zb dX7_spells_21 rfl (lv_at hl 0 rfl) ?_
          refine g_get (v := .ref (t 4)) XX hP 0 0 rfl rfl rfl iwX7 0 (by decide) fl_X7_9 rfl dX7_spells_22 ?_
          refine lv_iload zx zb dX7_spells_25 (lv_at hl 4 rfl) ?_
          refine g_ialdN (i := j) XX hP 0 1 rfl rfl (by omega) (by decide) dX7_spells_27 ?_
          refine lv_aload_n zx zb dX7_spells_28 rfl (lv_at hl 1 rfl) ?_
          refine lv_iload zx zb dX7_spells_29 (lv_at hl 4 rfl) ?_
          refine lv_iload_n zx zb dX7_spells_31 rfl (lv_at hl 2 rfl) ?_
          refine lv_isub zx zb dX7_spells_32 ?_
          refine g_top (y := nI (j - q)) (pk_sub (by omega)) ?_
          refine call_ViL (i := i) (As := [.int (nI (j - q))]) (rest := [.int (L.2.2.2.2.1 j)]) XX hLT cv_X7_89 (hi) (c_J0_charAt_5068e Γ l K i (j - q) (hi) (by omega)) hP hD hS hA rfl hl.1 rfl ⟨⟨by decide, by decide⟩, by decide, by decide⟩ (Nat.le_of_ble_eq_true rfl) dX7_spells_33 (fun r_33 H locs hw hP hS => ?_)
          have hw := hw.symm
          subst hw
          refine lv_icmp_eq (tgt := 41) zx zb dX7_spells_36 (by decide) (fun c_36 => ?_) (fun c_36 => ?_)
          · have c_36 : (L.2.2.2.2.1 j) = ((wdL i).getD (j - q) 0) := c_36
            refine lv_iinc (v := nI (j + 1)) (lv' := [(4, .int (nI (j + 1))), (0, .ref (t 2)), (1, .ref (K.1 i)), (2, .int (nI q)), (3, .int (nI e))]) zx zb dX7_spells_41 hl (k := 4) rfl (nI_inc _ 1) (by decide) rfl (fun ls hl => ?_)
            refine lv_goto (tgt := 15) zx zb dX7_spells_44 (by decide) ?_
            exact ih15 (j + 1) (by omega) (sp_s hs c_36) (by omega) _ _ hP hD hS _ (lv_sub hl [1, 2, 3, 4, 0] rfl)
          · have c_36 : ¬ ((L.2.2.2.2.1 j) = ((wdL i).getD (j - q) 0)) := c_36
            refine lv_iconst (v := nI 0) zx zb dX7_spells_39 (by decide) ?_
            exact fin _ _ (nI 0) () 40 _ dX7_spells_40 (nar0) (retF (sp_no (hlw ▸ c_7) hj.1 (by omega) c_36)) hP hD hS
    exact L15 _ q (⟨Nat.le_refl _, hqe⟩) (fun x h1 h2 => absurd h1 (by omega)) (Nat.lt_succ_self _) _ _ hP hD hS _ (lv_sub hl [1, 2, 3, 4, 0] rfl)
  · have c_7 : ¬ (lenA.getD i 0 = e - q) := fun h => c_7 ((nI_eq (a := lenA.getD i 0) (b := e - q) (by omega) (by omega)).mpr h)
    refine lv_iconst (v := nI 0) zx zb dX7_spells_10 (by decide) ?_
    exact fin _ _ (nI 0) () 11 _ dX7_spells_11 (nar0) (retF (sp_len (by rw [← hlw]; exact c_7))) hP hD hS

set_option maxHeartbeats 4000000 in
set_option maxRecDepth 100000 in
theorem c_X7_wordAt (Γ : GG) (l : Launch) (t : Nat → Nat) (L : ScV) (K : AK) (q : Nat) (e : Nat) (hqe : q ≤ e) (hel : e ≤ 150) : Cia K Γ l yX7_wordAt cX7_wordAt 3 (some (.int)) 5 109 0 0 [.ref (t 2), .int (nI q), .int (nI e)] [bSc Γ t L] (fun (r : Int32) (u : Unit) => r = wI (wIx L.2.2.2.2.1 q e)) (fun (u : Unit) => [bSc Γ t L]) := by
  refine Cia.of (ty := .int) rfl (by decide) (Nat.le_of_ble_eq_true rfl) ?_
  intro pp ee ss mm bb me cd AA QQ XX hLT hnm hA hP hD fin ls hl
  obtain ⟨zx, zb, hml, hown, hts, hK⟩ := id XX
  have hS : va_S AA ss.heap ss.heap [] := va_S.rf
  have hl : lv_has ls 3 [(0, .ref (t 2)), (1, .int (nI q)), (2, .int (nI e))] := hl
  refine lv_aload_n zx zb dX7_wordAt_0 rfl (lv_at hl 0 rfl) ?_
  refine va_ldcS zx zb hown (hLT.2.1 0 (by decide)) dX7_wordAt_1 ?_
  refine lv_iload_n zx zb dX7_wordAt_3 rfl (lv_at hl 1 rfl) ?_
  refine lv_iload_n zx zb dX7_wordAt_4 rfl (lv_at hl 2 rfl) ?_
  refine call_ViA (As := [.ref (K.1 0), .int (nI q), .int (nI e)]) (rest := []) XX hLT cv_X7_70 (c_X7_spells Γ l t L K 0 q e (by decide) (hqe) (hel)) hP hD hS hA [0] (by decide) rfl (fun _ => rfl) 0 0 rfl rfl rfl rfl hl.1 rfl ⟨⟨by decide, by decide⟩, by decide, by decide⟩ (Nat.le_of_ble_eq_true rfl) dX7_wordAt_5 (fun r_5 u H locs hw hP hD hS => ?_)
  have hw := hw.symm
  subst hw
  have hP : bP Γ [bSc Γ t L] H := hP
  have hD : bD AA [bSc Γ t L] := hD
  refine lv_if_eq (tgt := 13) zx zb dX7_wordAt_8 (by decide) (fun c_8 => ?_) (fun c_8 => ?_)
  · have c_8 : (spl (wdL 0) L.2.2.2.2.1 q e) = false := bI_0.mp c_8
    refine lv_aload_n zx zb dX7_wordAt_13 rfl (lv_at hl 0 rfl) ?_
    refine va_ldcS zx zb hown (hLT.2.1 1 (by decide)) dX7_wordAt_14 ?_
    refine lv_iload_n zx zb dX7_wordAt_16 rfl (lv_at hl 1 rfl) ?_
    refine lv_iload_n zx zb dX7_wordAt_17 rfl (lv_at hl 2 rfl) ?_
    refine call_ViA (As := [.ref (K.1 1), .int (nI q), .int (nI e)]) (rest := []) XX hLT cv_X7_70 (c_X7_spells Γ l t L K 1 q e (by decide) (hqe) (hel)) hP hD hS hA [0] (by decide) rfl (fun _ => rfl) 0 0 rfl rfl rfl rfl hl.1 rfl ⟨⟨by decide, by decide⟩, by decide, by decide⟩ (Nat.le_of_ble_eq_true rfl) dX7_wordAt_18 (fun r_18 u H locs hw hP hD hS => ?_)
    have hw := hw.symm
    subst hw
    have hP : bP Γ [bSc Γ t L] H := hP
    have hD : bD AA [bSc Γ t L] := hD
    refine lv_if_eq (tgt := 26) zx zb dX7_wordAt_21 (by decide) (fun c_21 => ?_) (fun c_21 => ?_)
    · have c_21 : (spl (wdL 1) L.2.2.2.2.1 q e) = false := bI_0.mp c_21
      refine lv_aload_n zx zb dX7_wordAt_26 rfl (lv_at hl 0 rfl) ?_
      refine va_ldcS zx zb hown (hLT.2.1 2 (by decide)) dX7_wordAt_27 ?_
      refine lv_iload_n zx zb dX7_wordAt_29 rfl (lv_at hl 1 rfl) ?_
      refine lv_iload_n zx zb dX7_wordAt_30 rfl (lv_at hl 2 rfl) ?_
      refine call_ViA (As := [.ref (K.1 2), .int (nI q), .int (nI e)]) (rest := []) XX hLT cv_X7_70 (c_X7_spells Γ l t L K 2 q e (by decide) (hqe) (hel)) hP hD hS hA [0] (by decide) rfl (fun _ => rfl) 0 0 rfl rfl rfl rfl hl.1 rfl ⟨⟨by decide, by decide⟩, by decide, by decide⟩ (Nat.le_of_ble_eq_true rfl) dX7_wordAt_31 (fun r_31 u H locs hw hP hD hS => ?_)
      have hw := hw.symm
      subst hw
      have hP : bP Γ [bSc Γ t L] H := hP
      have hD : bD AA [bSc Γ t L] := hD
      refine lv_if_eq (tgt := 39) zx zb dX7_wordAt_34 (by decide) (fun c_34 => ?_) (fun c_34 => ?_)
      · have c_34 : (spl (wdL 2) L.2.2.2.2.1 q e) = false := bI_0.mp c_34
        refine lv_aload_n zx zb dX7_wordAt_39 rfl (lv_at hl 0 rfl) ?_
        refine va_ldcS zx zb hown (hLT.2.1 3 (by decide)) dX7_wordAt_40 ?_
        refine lv_iload_n zx zb dX7_wordAt_42 rfl (lv_at hl 1 rfl) ?_
        refine lv_iload_n zx zb dX7_wordAt_43 rfl (lv_at hl 2 rfl) ?_
        refine call_ViA (As := [.ref (K.1 3), .int (nI q), .int (nI e)]) (rest := []) XX hLT cv_X7_70 (c_X7_spells Γ l t L K 3 q e (by decide) (hqe) (hel)) hP hD hS hA [0] (by decide) rfl (fun _ => rfl) 0 0 rfl rfl rfl rfl hl.1 rfl ⟨⟨by decide, by decide⟩, by decide, by decide⟩ (Nat.le_of_ble_eq_true rfl) dX7_wordAt_44 (fun r_44 u H locs hw hP hD hS => ?_)
        have hw := hw.symm
        subst hw
        have hP : bP Γ [bSc Γ t L] H := hP
        have hD : bD AA [bSc Γ t L] := hD
        refine lv_if_eq (tgt := 52) zx zb dX7_wordAt_47 (by decide) (fun c_47 => ?_) (fun c_47 => ?_)
        · have c_47 : (spl (wdL 3) L.2.2.2.2.1 q e) = false := bI_0.mp c_47
          refine lv_aload_n zx zb dX7_wordAt_52 rfl (lv_at hl 0 rfl) ?_
          refine va_ldcS zx zb hown (hLT.2.1 4 (by decide)) dX7_wordAt_53 ?_
          refine lv_iload_n zx zb dX7_wordAt_55 rfl (lv_at hl 1 rfl) ?_
          refine lv_iload_n zx zb dX7_wordAt_56 rfl (lv_at hl 2 rfl) ?_
          refine call_ViA (As := [.ref (K.1 4), .int (nI q), .int (nI e)]) (rest := []) XX hLT cv_X7_70 (c_X7_spells Γ l t L K 4 q e (by decide) (hqe) (hel)) hP hD hS hA [0] (by decide) rfl (fun _ => rfl) 0 0 rfl rfl rfl rfl hl.1 rfl ⟨⟨by decide, by decide⟩, by decide, by decide⟩ (Nat.le_of_ble_eq_true rfl) dX7_wordAt_57 (fun r_57 u H locs hw hP hD hS => ?_)
          have hw := hw.symm
          subst hw
          have hP : bP Γ [bSc Γ t L] H := hP
          have hD : bD AA [bSc Γ t L] := hD
          refine lv_if_eq (tgt := 65) zx zb dX7_wordAt_60 (by decide) (fun c_60 => ?_) (fun c_60 => ?_)
          · have c_60 : (spl (wdL 4) L.2.2.2.2.1 q e) = false := bI_0.mp c_60
            refine lv_aload_n zx zb dX7_wordAt_65 rfl (lv_at hl 0 rfl) ?_
            refine va_ldcS zx zb hown (hLT.2.1 5 (by decide)) dX7_wordAt_66 ?_
            refine lv_iload_n zx zb dX7_wordAt_68 rfl (lv_at hl 1 rfl) ?_
            refine lv_iload_n zx zb dX7_wordAt_69 rfl (lv_at hl 2 rfl) ?_
            refine call_ViA (As := [.ref (K.1 5), .int (nI q), .int (nI e)]) (rest := []) XX hLT cv_X7_70 (c_X7_spells Γ l t L K 5 q e (by decide) (hqe) (hel)) hP hD hS hA [0] (by decide) rfl (fun _ => rfl) 0 0 rfl rfl rfl rfl hl.1 rfl ⟨⟨by decide, by decide⟩, by decide, by decide⟩ (Nat.le_of_ble_eq_true rfl) dX7_wordAt_70 (fun r_70 u H locs hw hP hD hS => ?_)
            have hw := hw.symm
            subst hw
            have hP : bP Γ [bSc Γ t L] H := hP
            have hD : bD AA [bSc Γ t L] := hD
            refine lv_if_eq (tgt := 80) zx zb dX7_wordAt_73 (by decide) (fun c_73 => ?_) (fun c_73 => ?_)
            · have c_73 : (spl (wdL 5) L.2.2.2.2.1 q e) = false := bI_0.mp c_73
              refine lv_iconst (v := (-1)) zx zb dX7_wordAt_80 (by decide) ?_
              exact fin _ _ (-1) () 81 _ dX7_wordAt_81 (rfl) (by unfold wIx; simp only [c_8, c_21, c_34, c_47, c_60, c_73, if_true, Bool.false_eq_true, if_false]; rfl) hP hD hS
            · have c_73 : (spl (wdL 5) L.2.2.2.2.1 q e) = true := bI_ne c_73
              refine lv_iconst (v := nI 5) zx zb dX7_wordAt_76 (by decide) ?_
              refine lv_goto (tgt := 81) zx zb dX7_wordAt_77 (by decide) ?_
              exact fin _ _ (nI 5) () 81 _ dX7_wordAt_81 (rfl) (by unfold wIx; simp only [c_8, c_21, c_34, c_47, c_60, c_73, if_true, Bool.false_eq_true, if_false]; rfl) hP hD hS
          · have c_60 : (spl (wdL 4) L.2.2.2.2.1 q e) = true := bI_ne c_60
            refine lv_iconst (v := nI 4) zx zb dX7_wordAt_63 (by decide) ?_
            exact fin _ _ (nI 4) () 64 _ dX7_wordAt_64 (rfl) (by unfold wIx; simp only [c_8, c_21, c_34, c_47, c_60, if_true, Bool.false_eq_true, if_false]; rfl) hP hD hS
        · have c_47 : (spl (wdL 3) L.2.2.2.2.1 q e) = true := bI_ne c_47
          refine lv_iconst (v := nI 3) zx zb dX7_wordAt_50 (by decide) ?_
          exact fin _ _ (nI 3) () 51 _ dX7_wordAt_51 (rfl) (by unfold wIx; simp only [c_8, c_21, c_34, c_47, if_true, Bool.false_eq_true, if_false]; rfl) hP hD hS
      · have c_34 : (spl (wdL 2) L.2.2.2.2.1 q e) = true := bI_ne c_34
        refine lv_iconst (v := nI 2) zx zb dX7_wordAt_37 (by decide) ?_
        exact fin _ _ (nI 2) () 38 _ dX7_wordAt_38 (rfl) (by unfold wIx; simp only [c_8, c_21, c_34, if_true, Bool.false_eq_true, if_false]; rfl) hP hD hS
    · have c_21 : (spl (wdL 1) L.2.2.2.2.1 q e) = true := bI_ne c_21
      refine lv_iconst (v := nI 1) zx zb dX7_wordAt_24 (by decide) ?_
      exact fin _ _ (nI 1) () 25 _ dX7_wordAt_25 (rfl) (by unfold wIx; simp only [c_8, c_21, if_true, Bool.false_eq_true, if_false]; rfl) hP hD hS
  · have c_8 : (spl (wdL 0) L.2.2.2.2.1 q e) = true := bI_ne c_8
    refine lv_iconst (v := nI 0) zx zb dX7_wordAt_11 (by decide) ?_
    exact fin _ _ (nI 0) () 12 _ dX7_wordAt_12 (rfl) (by unfold wIx; simp only [c_8, if_true, Bool.false_eq_true, if_false]; rfl) hP hD hS

set_option maxHeartbeats 4000000 in
set_option maxRecDepth 100000 in
theorem c_X7_skipBlanks (Γ : GG) (l : Launch) (t : Nat → Nat) (L : ScV) (hp0 : L.2.2.1 ≤ L.1) (hl0 : L.1 ≤ 150) : Cv Γ l yX7_skipBlanks cX7_skipBlanks 1 none 0 0 0 0 [.ref (t 2)] [bSc Γ t L] (fun (u : ScV) => u = (L.1, L.2.1, nxt L.2.2.2.2.1 L.1 L.2.2.1, L.2.2.2.1, L.2.2.2.2.1, L.2.2.2.2.2.1, L.2.2.2.2.2.2)) (fun (u : ScV) => [bSc Γ t u]) := by
  refine Cv.of rfl (by decide) (Nat.le_of_ble_eq_true rfl) ?_
  intro pp ee ss mm bb me cd AA QQ XX hnm hA hP hD fin ls hl
  obtain ⟨zx, zb, hml, hown, hts, hK⟩ := id XX
  have hS : va_S AA ss.heap ss.heap [] := va_S.rf
  have hl : lv_has ls 1 [(0, .ref (t 2))] := hl
  have L0 : ∀ (nn : Nat) (p : Nat), (L.2.2.1 ≤ p ∧ p ≤ L.1) → (∀ i, L.2.2.1 ≤ i → i < p → L.2.2.2.2.1 i = 32) → L.1 - p < nn → ∀ (H : Heap) (locs : List Loc), bP Γ [bSc Γ t (L.1, L.2.1, p, L.2.2.2.1, L.2.2.2.2.1, L.2.2.2.2.2.1, L.2.2.2.2.2.2)] H → bD AA [bSc Γ t (L.1, L.2.1, p, L.2.2.2.1, L.2.2.2.2.1, L.2.2.2.2.2.1, L.2.2.2.2.2.2)] → va_S AA ss.heap H locs → ∀ (ls : Array Slot), lv_has ls 1 [(0, .ref (t 2))] → W pp l ee { frames := 0, cells := 0, slots := 0, locals := 0 } ss mm [.ref (t 2)].toArray bb me cd H locs 0 0 QQ (F0 mm 0 ls []) := by
    intro nn
    induction nn with
    | zero => intro p hp hb hm; exact absurd hm (Nat.not_lt_zero _)
    | succ nn ih0 =>
      intro p hp hb hm0 H locs hP hD hS ls hl
      refine lv_aload_n zx zb dX7_skipBlanks_0 rfl (lv_at hl 0 rfl) ?_
      refine g_get (v := .int (nI p)) XX hP 0 0 rfl rfl rfl iwX7 5 (by decide) fl_X7_25 rfl dX7_skipBlanks_1 ?_
      refine lv_aload_n zx zb dX7_skipBlanks_4 rfl (lv_at hl 0 rfl) ?_
      refine g_get (v := .int (nI (L.1))) XX hP 0 0 rfl rfl rfl iwX7 1 (by decide) fl_X7_34 rfl dX7_skipBlanks_5 ?_
      refine lv_icmp_ge (tgt := 38) zx zb dX7_skipBlanks_8 (by decide) (fun c_8 => ?_) (fun c_8 => ?_)
      · have c_8 : L.1 ≤ p := (nI_leI (a := L.1) (b := p) (by omega) (by omega)).mp c_8
        exact fin _ _ (L.1, L.2.1, p, L.2.2.2.1, L.2.2.2.2.1, L.2.2.2.2.2.1, L.2.2.2.2.2.2) 38 _ dX7_skipBlanks_38 (by rw [nxt_eq hp.1 hp.2 hb (by first | exact Or.inl (by omega) | exact Or.inr c_22)]) hP hD hS
      · have c_8 : ¬ (L.1 ≤ p) := fun h => c_8 ((nI_leI (a := L.1) (b := p) (by omega) (by omega)).mpr h)
        refine lv_aload_n zx zb dX7_skipBlanks_11 rfl (lv_at hl 0 rfl) ?_
        refine g_get (v := .ref (t 4)) XX hP 0 0 rfl rfl rfl iwX7 0 (by decide) fl_X7_9 rfl dX7_skipBlanks_12 ?_
        refine lv_aload_n zx zb dX7_skipBlanks_15 rfl (lv_at hl 0 rfl) ?_
        refine g_get (v := .int (nI p)) XX hP 0 0 rfl rfl rfl iwX7 5 (by decide) fl_X7_25 rfl dX7_skipBlanks_16 ?_
        refine g_ialdN (i := p) XX hP 0 1 rfl rfl (by omega) (by decide) dX7_skipBlanks_19 ?_
        refine lv_bipush (v := nI 32) zx zb dX7_skipBlanks_20 (by decide) ?_
        refine lv_icmp_ne (tgt := 38) zx zb dX7_skipBlanks_22 (by decide) (fun c_22 => ?_) (fun c_22 => ?_)
        · have c_22 : ¬ ((L.2.2.2.2.1 p) = (32 : Int32)) := c_22
          exact fin _ _ (L.1, L.2.1, p, L.2.2.2.1, L.2.2.2.2.1, L.2.2.2.2.2.1, L.2.2.2.2.2.2) 38 _ dX7_skipBlanks_38 (by rw [nxt_eq hp.1 hp.2 hb (by first | exact Or.inl (by omega) | exact Or.inr c_22)]) hP hD hS
        · have c_22 : (L.2.2.2.2.1 p) = (32 : Int32) := c_22
          refine lv_aload_n zx zb dX7_skipBlanks_25 rfl (lv_at hl 0 rfl) ?_
          refine lv_dup zx zb dX7_skipBlanks_26 rfl ?_
          refine g_get (v := .int (nI p)) XX hP 0 0 rfl rfl rfl iwX7 5 (by decide) fl_X7_25 rfl dX7_skipBlanks_27 ?_
          refine lv_iconst (v := nI 1) zx zb dX7_skipBlanks_30 (by decide) ?_
          refine lv_iadd zx zb dX7_skipBlanks_31 ?_
          refine g_top (y := nI (p + 1)) (nI_add p 1) ?_
          refine g_put (v := .int (nI (p + 1))) (blk' := bSc Γ t (L.1, L.2.1, p + 1, L.2.2.2.1, L.2.2.2.2.1, L.2.2.2.2.2.1, L.2.2.2.2.2.2)) (bs' := [bSc Γ t (L.1, L.2.1, p + 1, L.2.2.2.1, L.2.2.2.2.1, L.2.2.2.2.2.1, L.2.2.2.2.2.2)]) XX hP hD hS 0 0 rfl rfl rfl iwX7 tyX7_ok nmX7 5 (by decide) fl_X7_25 rfl rfl rfl (Nat.le_of_ble_eq_true rfl) rfl rfl rfl dX7_skipBlanks_32 (fun H locs hP hD hS => ?_)
          refine lv_goto (tgt := 0) zx zb dX7_skipBlanks_35 (by decide) ?_
          exact ih0 (p + 1) (by omega) (fun i h1 h2 => by by_cases e9 : i = p; (subst e9; exact c_22); exact hb i h1 (by omega)) (by omega) _ _ hP hD hS _ (lv_sub hl [0] rfl)
  exact L0 _ L.2.2.1 (⟨Nat.le_refl _, hp0⟩) (fun i h1 h2 => absurd h1 (by omega)) (Nat.lt_succ_self _) _ _ hP hD hS _ (lv_sub hl [0] rfl)

set_option maxHeartbeats 4000000 in
set_option maxRecDepth 100000 in
theorem c_X7_takeWord (Γ : GG) (l : Launch) (t : Nat → Nat) (L : ScV) (K : AK) (S : PS) (hR : scR L S) (hI : pI L.1 S) (eq : nxt L.2.2.2.2.1 L.1 S.1 = L.2.2.1) (hq : L.2.2.1 < L.1) (hl0 : L.1 ≤ 150) (hL : isL (L.2.2.2.2.1 L.2.2.1) = true) : Cia K Γ l yX7_takeWord cX7_takeWord 3 (some (.boolean)) 6 131 0 0 [.ref (t 2)] [bSc Γ t L] (fun (r : Int32) (u : ScV) => tkP L.2.2.2.2.1 L.1 S r u) (fun (u : ScV) => [bSc Γ t u]) := by
  refine Cia.of (ty := .boolean) rfl (by decide) (Nat.le_of_ble_eq_true rfl) ?_
  intro pp ee ss mm bb me cd AA QQ XX hLT hnm hA hP hD fin ls hl
  obtain ⟨zx, zb, hml, hown, hts, hK⟩ := id XX
  have hS : va_S AA ss.heap ss.heap [] := va_S.rf
  have hl : lv_has ls 3 [(0, .ref (t 2))] := hl
  have hit : L.2.1 < 25 := by have h8 := hR.1; have h9 := nxt_le (g := L.2.2.2.2.1) hI.1; rw [eq] at h9; rcases hI.2.1 with z | z <;> omega
  have hd9 : S.2.1 < 1000 := by rcases hI.2.1 with z | z; omega; (have := nbN_le (S.2.2.2.1 S.2.2.1); omega)
  refine lv_aload_n zx zb dX7_takeWord_0 rfl (lv_at hl 0 rfl) ?_
  refine g_get (v := .int (nI (L.2.2.1))) XX hP 0 0 rfl rfl rfl iwX7 5 (by decide) fl_X7_25 rfl dX7_takeWord_1 ?_
  refine lv_istore_n (lv' := [(1, .int (nI (L.2.2.1))), (0, .ref (t 2))]) zx zb dX7_takeWord_4 rfl hl (by decide) rfl (fun ls hl => ?_)
  have L5 : ∀ (nn : Nat) (r9 : Nat), (L.2.2.1 ≤ r9 ∧ r9 ≤ L.1) → (∀ i, L.2.2.1 ≤ i → i < r9 → isL (L.2.2.2.2.1 i) = true) → L.1 - r9 < nn → ∀ (H : Heap) (locs : List Loc), bP Γ [bSc Γ t (L.1, L.2.1, r9, L.2.2.2.1, L.2.2.2.2.1, L.2.2.2.2.2.1, L.2.2.2.2.2.2)] H → bD AA [bSc Γ t (L.1, L.2.1, r9, L.2.2.2.1, L.2.2.2.2.1, L.2.2.2.2.2.1, L.2.2.2.2.2.2)] → va_S AA ss.heap H locs → ∀ (ls : Array Slot), lv_has ls 3 [(0, .ref (t 2)), (1, .int (nI (L.2.2.1)))] → W pp l ee { frames := 6, cells := 0, slots := 0, locals := 131 } ss mm [.ref (t 2)].toArray bb me cd H locs 0 0 QQ (F0 mm 5 ls []) := by
    intro nn
    induction nn with
    | zero => intro r9 hr hrun hm; exact absurd hm (Nat.not_lt_zero _)
    | succ nn ih5 =>
      intro r9 hr hrun hm5 H locs hP hD hS ls hl
      refine lv_aload_n zx zb dX7_takeWord_5 rfl (lv_at hl 0 rfl) ?_
      refine g_get (v := .int (nI r9)) XX hP 0 0 rfl rfl rfl iwX7 5 (by decide) fl_X7_25 rfl dX7_takeWord_6 ?_
      refine lv_aload_n zx zb dX7_takeWord_9 rfl (lv_at hl 0 rfl) ?_
      refine g_get (v := .int (nI (L.1))) XX hP 0 0 rfl rfl rfl iwX7 1 (by decide) fl_X7_34 rfl dX7_takeWord_10 ?_
      refine lv_icmp_ge (tgt := 44) zx zb dX7_takeWord_13 (by decide) (fun c_13 => ?_) (fun c_13 => ?_)
      · have c_13 : L.1 ≤ r9 := (nI_leI (a := L.1) (b := r9) (by omega) (by omega)).mp c_13
        have er : wE L.2.2.2.2.1 L.1 L.2.2.1 = r9 := wE_eq hr.1 hr.2 hrun (by first | exact Or.inl (by omega) | exact Or.inr c_28)
        refine lv_aload_n zx zb dX7_takeWord_44 rfl (lv_at hl 0 rfl) ?_
        refine lv_iload_n zx zb dX7_takeWord_45 rfl (lv_at hl 1 rfl) ?_
        refine lv_aload_n zx zb dX7_takeWord_46 rfl (lv_at hl 0 rfl) ?_
        refine g_get (v := .int (nI r9)) XX hP 0 0 rfl rfl rfl iwX7 5 (by decide) fl_X7_25 rfl dX7_takeWord_47 ?_
        refine call_ViA (As := [.int (nI (L.2.2.1)), .int (nI r9)]) (rest := []) XX hLT cv_X7_61 (c_X7_wordAt Γ l t (L.1, L.2.1, r9, L.2.2.2.1, L.2.2.2.2.1, L.2.2.2.2.2.1, L.2.2.2.2.2.2) K L.2.2.1 r9 (hr.1) (by omega)) hP hD hS hA [0] (by decide) rfl (fun _ => rfl) 0 0 rfl rfl rfl rfl hl.1 rfl ⟨⟨by decide, by decide⟩, by decide, by decide⟩ (Nat.le_of_ble_eq_true rfl) dX7_takeWord_50 (fun r_50 u H locs hw hP hD hS => ?_)
        have hw := hw.symm
        subst hw
        have hP : bP Γ [bSc Γ t (L.1, L.2.1, r9, L.2.2.2.1, L.2.2.2.2.1, L.2.2.2.2.2.1, L.2.2.2.2.2.2)] H := hP
        have hD : bD AA [bSc Γ t (L.1, L.2.1, r9, L.2.2.2.1, L.2.2.2.2.1, L.2.2.2.2.2.1, L.2.2.2.2.2.2)] := hD
        obtain ⟨wv, hwv⟩ : ∃ z : Int32, z = wI (wIx L.2.2.2.2.1 L.2.2.1 r9) := ⟨_, rfl⟩
        refine g_top (y := wv) (hwv.symm) ?_
        refine lv_istore_n (lv' := [(2, .int wv), (0, .ref (t 2)), (1, .int (nI (L.2.2.1)))]) zx zb dX7_takeWord_53 rfl hl (by decide) rfl (fun ls hl => ?_)
        refine lv_aload_n zx zb dX7_takeWord_54 rfl (lv_at hl 1 rfl) ?_
        refine g_get (v := .int L.2.2.2.1) XX hP 0 0 rfl rfl rfl iwX7 6 (by decide) fl_X7_28 rfl dX7_takeWord_55 ?_
        refine lv_iconst (v := (-1)) zx zb dX7_takeWord_58 (by decide) ?_
        refine lv_icmp_ne (tgt := 76) zx zb dX7_takeWord_59 (by decide) (fun c_59 => ?_) (fun c_59 => ?_)
        · have c_59 : ¬ (L.2.2.2.1 = (-1)) := c_59
          refine lv_iconst (v := nI 0) zx zb dX7_takeWord_76 (by decide) ?_
          exact fin _ _ (nI 0) (L.1, L.2.1, r9, L.2.2.2.1, L.2.2.2.2.1, L.2.2.2.2.2.1, L.2.2.2.2.2.2) 77 _ dX7_takeWord_77 (nar0) (by first | exact tw_no eq hq hL er ⟨rfl, rfl⟩ (Or.inl (fun z => c_59 (hR.2.1.trans ((dI_0 hd9).mpr z)))) | exact tw_no eq hq hL er ⟨rfl, rfl⟩ (Or.inr (Or.inl (wI_1 (hwv.symm.trans c_64) wIx_le)))) hP hD hS
        · have c_59 : L.2.2.2.1 = (-1) := c_59
          refine lv_iload_n zx zb dX7_takeWord_62 rfl (lv_at hl 0 rfl) ?_
          refine lv_iconst (v := (-1)) zx zb dX7_takeWord_63 (by decide) ?_
          refine lv_icmp_eq (tgt := 76) zx zb dX7_takeWord_64 (by decide) (fun c_64 => ?_) (fun c_64 => ?_)
          · have c_64 : wv = (-1) := c_64
            refine lv_iconst (v := nI 0) zx zb dX7_takeWord_76 (by decide) ?_
            exact fin _ _ (nI 0) (L.1, L.2.1, r9, L.2.2.2.1, L.2.2.2.2.1, L.2.2.2.2.2.1, L.2.2.2.2.2.2) 77 _ dX7_takeWord_77 (nar0) (by first | exact tw_no eq hq hL er ⟨rfl, rfl⟩ (Or.inl (fun z => c_59 (hR.2.1.trans ((dI_0 hd9).mpr z)))) | exact tw_no eq hq hL er ⟨rfl, rfl⟩ (Or.inr (Or.inl (wI_1 (hwv.symm.trans c_64) wIx_le)))) hP hD hS
          · have c_64 : ¬ (wv = (-1)) := c_64
            refine lv_aload_n zx zb dX7_takeWord_67 rfl (lv_at hl 1 rfl) ?_
            refine g_get (v := .int (nI (L.2.1))) XX hP 0 0 rfl rfl rfl iwX7 2 (by decide) fl_X7_21 rfl dX7_takeWord_68 ?_
            refine lv_bipush (v := nI 25) zx zb dX7_takeWord_71 (by decide) ?_
            refine lv_icmp_lt (tgt := 78) zx zb dX7_takeWord_73 (by decide) (fun c_73 => ?_) (fun c_73 => ?_)
            · have c_73 : L.2.1 < 25 := (nI_ltI (a := L.2.1) (b := 25) (by omega) (by omega)).mp c_73
              obtain ⟨wx, hwx, rfl⟩ := wv_nat hwv c_64
              have hd0 : S.2.1 = 0 := (dI_0 hd9).mp (hR.2.1.symm.trans c_59)
              refine lv_iload_n zx zb dX7_takeWord_78 rfl (lv_at hl 0 rfl) ?_
              refine lv_if_ne (tgt := 86) zx zb dX7_takeWord_79 (by decide) (fun c_79 => ?_) (fun c_79 => ?_)
              · have c_79 : ¬ (wx = 0) := fun h => c_79 ((nI_eq (a := wx) (b := 0) (by omega) (by omega)).mpr h)
                refine lv_iconst (v := nI 0) zx zb dX7_takeWord_86 (by decide) ?_
                refine lv_aload_n zx zb dX7_takeWord_87 rfl (lv_at hl 1 rfl) ?_
                refine g_get (v := .int (nI (L.2.1))) XX hP 0 0 rfl rfl rfl iwX7 2 (by decide) fl_X7_21 rfl dX7_takeWord_88 ?_
                refine lv_if_ne (tgt := 98) zx zb dX7_takeWord_91 (by decide) (fun c_91 => ?_) (fun c_91 => ?_)
                · have c_91 : ¬ (L.2.1 = 0) := fun h => c_91 ((nI_eq (a := L.2.1) (b := 0) (by omega) (by omega)).mpr h)
                  refine lv_iconst (v := nI 0) zx zb dX7_takeWord_98 (by decide) ?_
                  refine lv_icmp_eq (tgt := 104) zx zb dX7_takeWord_99 (by decide) (fun c_99 => ?_) (fun c_99 => ?_)
                  · clear c_99
                    refine lv_aload_n zx zb dX7_takeWord_104 rfl (lv_at hl 1 rfl) ?_
                    refine g_get (v := .ref (t 6)) XX hP 0 0 rfl rfl rfl iwX7 4 (by decide) fl_X7_18 rfl dX7_takeWord_105 ?_
                    refine lv_aload_n zx zb dX7_takeWord_108 rfl (lv_at hl 1 rfl) ?_
                    refine g_get (v := .int (nI (L.2.1))) XX hP 0 0 rfl rfl rfl iwX7 2 (by decide) fl_X7_21 rfl dX7_takeWord_109 ?_
                    refine lv_iload_n zx zb dX7_takeWord_112 rfl (lv_at hl 0 rfl) ?_
                    refine g_iastN (x := nI wx) (i := L.2.1) (blk' := bSc Γ t (L.1, L.2.1, r9, L.2.2.2.1, L.2.2.2.2.1, L.2.2.2.2.2.1, upd L.2.2.2.2.2.2 L.2.1 (nI wx))) (bs' := [bSc Γ t (L.1, L.2.1, r9, L.2.2.2.1, L.2.2.2.2.1, L.2.2.2.2.2.1, upd L.2.2.2.2.2.2 L.2.1 (nI wx))]) XX hP hD hS 0 3 rfl rfl (by omega) (by decide) rfl rfl dX7_takeWord_113 (fun H locs hP hD hS => ?_)
                    refine lv_aload_n zx zb dX7_takeWord_114 rfl (lv_at hl 1 rfl) ?_
                    refine va_gets zx zb hLT.2.2.2.1.1 hS hown (hts _ fl_X7_65) (fun _ h => h) dX7_takeWord_115 ?_
                    refine lv_iload_n zx zb dX7_takeWord_118 rfl (lv_at hl 0 rfl) ?_
                    refine va_ti (v := .int (nI (nbN wx))) zx zb hLT.2.2.2.1.2 hS (vp_in_nI (by omega) (by decide)) (by rw [nI_clamp (by omega)]) dX7_takeWord_119 ?_
                    refine g_put (v := .int (nI (nbN wx))) (blk' := bSc Γ t (L.1, L.2.1, r9, nI (nbN wx), L.2.2.2.2.1, L.2.2.2.2.2.1, upd L.2.2.2.2.2.2 L.2.1 (nI wx))) (bs' := [bSc Γ t (L.1, L.2.1, r9, nI (nbN wx), L.2.2.2.2.1, L.2.2.2.2.2.1, upd L.2.2.2.2.2.2 L.2.1 (nI wx))]) XX hP hD hS 0 0 rfl rfl rfl iwX7 tyX7_ok nmX7 6 (by decide) fl_X7_28 rfl rfl rfl (Nat.le_of_ble_eq_true rfl) rfl rfl rfl dX7_takeWord_120 (fun H locs hP hD hS => ?_)
                    refine lv_iconst (v := nI 1) zx zb dX7_takeWord_123 (by decide) ?_
                    exact fin _ _ (nI 1) (L.1, L.2.1, r9, nI (nbN wx), L.2.2.2.2.1, L.2.2.2.2.2.1, upd L.2.2.2.2.2.2 L.2.1 (nI wx)) 124 _ dX7_takeWord_124 (nar1) (tw_ys hR eq hq hL er hd0 hwx.1 hwx.2 (by rw [← hR.1]; omega)) hP hD hS
                  · exact absurd c_99 (by decide)
                · have c_91 : L.2.1 = 0 := (nI_eq (a := L.2.1) (b := 0) (by omega) (by omega)).mp c_91
                  refine lv_iconst (v := nI 1) zx zb dX7_takeWord_94 (by decide) ?_
                  refine lv_goto (tgt := 99) zx zb dX7_takeWord_95 (by decide) ?_
                  refine lv_icmp_eq (tgt := 104) zx zb dX7_takeWord_99 (by decide) (fun c_99 => ?_) (fun c_99 => ?_)
                  · exact absurd c_99 (by decide)
                  · clear c_99
                    refine lv_iconst (v := nI 0) zx zb dX7_takeWord_102 (by decide) ?_
                    exact fin _ _ (nI 0) (L.1, L.2.1, r9, L.2.2.2.1, L.2.2.2.2.1, L.2.2.2.2.2.1, L.2.2.2.2.2.2) 103 _ dX7_takeWord_103 (nar0) (tw_no eq hq hL er ⟨rfl, rfl⟩ (Or.inr (Or.inr (by rw [hwx.2, ← hR.1]; omega)))) hP hD hS
              · have c_79 : wx = 0 := (nI_eq (a := wx) (b := 0) (by omega) (by omega)).mp c_79
                refine lv_iconst (v := nI 1) zx zb dX7_takeWord_82 (by decide) ?_
                refine lv_goto (tgt := 87) zx zb dX7_takeWord_83 (by decide) ?_
                refine lv_aload_n zx zb dX7_takeWord_87 rfl (lv_at hl 1 rfl) ?_
                refine g_get (v := .int (nI (L.2.1))) XX hP 0 0 rfl rfl rfl iwX7 2 (by decide) fl_X7_21 rfl dX7_takeWord_88 ?_
                refine lv_if_ne (tgt := 98) zx zb dX7_takeWord_91 (by decide) (fun c_91 => ?_) (fun c_91 => ?_)
                · have c_91 : ¬ (L.2.1 = 0) := fun h => c_91 ((nI_eq (a := L.2.1) (b := 0) (by omega) (by omega)).mpr h)
                  refine lv_iconst (v := nI 0) zx zb dX7_takeWord_98 (by decide) ?_
                  refine lv_icmp_eq (tgt := 104) zx zb dX7_takeWord_99 (by decide) (fun c_99 => ?_) (fun c_99 => ?_)
                  · exact absurd c_99 (by decide)
                  · clear c_99
                    refine lv_iconst (v := nI 0) zx zb dX7_takeWord_102 (by decide) ?_
                    exact fin _ _ (nI 0) (L.1, L.2.1, r9, L.2.2.2.1, L.2.2.2.2.1, L.2.2.2.2.2.1, L.2.2.2.2.2.2) 103 _ dX7_takeWord_103 (nar0) (tw_no eq hq hL er ⟨rfl, rfl⟩ (Or.inr (Or.inr (by rw [hwx.2, ← hR.1]; omega)))) hP hD hS
                · have c_91 : L.2.1 = 0 := (nI_eq (a := L.2.1) (b := 0) (by omega) (by omega)).mp c_91
                  refine lv_iconst (v := nI 1) zx zb dX7_takeWord_94 (by decide) ?_
                  refine lv_goto (tgt := 99) zx zb dX7_takeWord_95 (by decide) ?_
                  refine lv_icmp_eq (tgt := 104) zx zb dX7_takeWord_99 (by decide) (fun c_99 => ?_) (fun c_99 => ?_)
                  · clear c_99
                    refine lv_aload_n zx zb dX7_takeWord_104 rfl (lv_at hl 1 rfl) ?_
                    refine g_get (v := .ref (t 6)) XX hP 0 0 rfl rfl rfl iwX7 4 (by decide) fl_X7_18 rfl dX7_takeWord_105 ?_
                    refine lv_aload_n zx zb dX7_takeWord_108 rfl (lv_at hl 1 rfl) ?_
                    refine g_get (v := .int (nI (L.2.1))) XX hP 0 0 rfl rfl rfl iwX7 2 (by decide) fl_X7_21 rfl dX7_takeWord_109 ?_
                    refine lv_iload_n zx zb dX7_takeWord_112 rfl (lv_at hl 0 rfl) ?_
                    refine g_iastN (x := nI wx) (i := L.2.1) (blk' := bSc Γ t (L.1, L.2.1, r9, L.2.2.2.1, L.2.2.2.2.1, L.2.2.2.2.2.1, upd L.2.2.2.2.2.2 L.2.1 (nI wx))) (bs' := [bSc Γ t (L.1, L.2.1, r9, L.2.2.2.1, L.2.2.2.2.1, L.2.2.2.2.2.1, upd L.2.2.2.2.2.2 L.2.1 (nI wx))]) XX hP hD hS 0 3 rfl rfl (by omega) (by decide) rfl rfl dX7_takeWord_113 (fun H locs hP hD hS => ?_)
                    refine lv_aload_n zx zb dX7_takeWord_114 rfl (lv_at hl 1 rfl) ?_
                    refine va_gets zx zb hLT.2.2.2.1.1 hS hown (hts _ fl_X7_65) (fun _ h => h) dX7_takeWord_115 ?_
                    refine lv_iload_n zx zb dX7_takeWord_118 rfl (lv_at hl 0 rfl) ?_
                    refine va_ti (v := .int (nI (nbN wx))) zx zb hLT.2.2.2.1.2 hS (vp_in_nI (by omega) (by decide)) (by rw [nI_clamp (by omega)]) dX7_takeWord_119 ?_
                    refine g_put (v := .int (nI (nbN wx))) (blk' := bSc Γ t (L.1, L.2.1, r9, nI (nbN wx), L.2.2.2.2.1, L.2.2.2.2.2.1, upd L.2.2.2.2.2.2 L.2.1 (nI wx))) (bs' := [bSc Γ t (L.1, L.2.1, r9, nI (nbN wx), L.2.2.2.2.1, L.2.2.2.2.2.1, upd L.2.2.2.2.2.2 L.2.1 (nI wx))]) XX hP hD hS 0 0 rfl rfl rfl iwX7 tyX7_ok nmX7 6 (by decide) fl_X7_28 rfl rfl rfl (Nat.le_of_ble_eq_true rfl) rfl rfl rfl dX7_takeWord_120 (fun H locs hP hD hS => ?_)
                    refine lv_iconst (v := nI 1) zx zb dX7_takeWord_123 (by decide) ?_
                    exact fin _ _ (nI 1) (L.1, L.2.1, r9, nI (nbN wx), L.2.2.2.2.1, L.2.2.2.2.2.1, upd L.2.2.2.2.2.2 L.2.1 (nI wx)) 124 _ dX7_takeWord_124 (nar1) (tw_ys hR eq hq hL er hd0 hwx.1 hwx.2 (by rw [← hR.1]; omega)) hP hD hS
                  · exact absurd c_99 (by decide)
            · have c_73 : ¬ (L.2.1 < 25) := fun h => c_73 ((nI_ltI (a := L.2.1) (b := 25) (by omega) (by omega)).mpr h)
              exact absurd hit c_73
      · have c_13 : ¬ (L.1 ≤ r9) := fun h => c_13 ((nI_leI (a := L.1) (b := r9) (by omega) (by omega)).mpr h)
        refine lv_aload_n zx zb dX7_takeWord_16 rfl (lv_at hl 0 rfl) ?_
        refine g_get (v := .ref (t 4)) XX hP 0 0 rfl rfl rfl iwX7 0 (by decide) fl_X7_9 rfl dX7_takeWord_17 ?_
        refine lv_aload_n zx zb dX7_takeWord_20 rfl (lv_at hl 0 rfl) ?_
        refine g_get (v := .int (nI r9)) XX hP 0 0 rfl rfl rfl iwX7 5 (by decide) fl_X7_25 rfl dX7_takeWord_21 ?_
        refine g_ialdN (i := r9) XX hP 0 1 rfl rfl (by omega) (by decide) dX7_takeWord_24 ?_
        refine callR_Si (As := [.int (L.2.2.2.2.1 r9)]) (rest := []) XX cs_X7_41 (c_X7_isLetter Γ l (L.2.2.2.2.1 r9) ) hP hD hS hA nil_mem nil_D rfl hl.1 rfl ⟨⟨by decide, by decide⟩, by decide, by decide⟩ (Nat.le_of_ble_eq_true rfl) dX7_takeWord_25 (fun r_25 H locs hw hP hS => ?_)
        have hw := hw.symm
        subst hw
        refine lv_if_eq (tgt := 44) zx zb dX7_takeWord_28 (by decide) (fun c_28 => ?_) (fun c_28 => ?_)
        · have c_28 : (isL (L.2.2.2.2.1 r9)) = false := bI_0.mp c_28
          have er : wE L.2.2.2.2.1 L.1 L.2.2.1 = r9 := wE_eq hr.1 hr.2 hrun (by first | exact Or.inl (by omega) | exact Or.inr c_28)
          refine lv_aload_n zx zb dX7_takeWord_44 rfl (lv_at hl 0 rfl) ?_
          refine lv_iload_n zx zb dX7_takeWord_45 rfl (lv_at hl 1 rfl) ?_
          refine lv_aload_n zx zb dX7_takeWord_46 rfl (lv_at hl 0 rfl) ?_
          refine g_get (v := .int (nI r9)) XX hP 0 0 rfl rfl rfl iwX7 5 (by decide) fl_X7_25 rfl dX7_takeWord_47 ?_
          refine call_ViA (As := [.int (nI (L.2.2.1)), .int (nI r9)]) (rest := []) XX hLT cv_X7_61 (c_X7_wordAt Γ l t (L.1, L.2.1, r9, L.2.2.2.1, L.2.2.2.2.1, L.2.2.2.2.2.1, L.2.2.2.2.2.2) K L.2.2.1 r9 (hr.1) (by omega)) hP hD hS hA [0] (by decide) rfl (fun _ => rfl) 0 0 rfl rfl rfl rfl hl.1 rfl ⟨⟨by decide, by decide⟩, by decide, by decide⟩ (Nat.le_of_ble_eq_true rfl) dX7_takeWord_50 (fun r_50 u H locs hw hP hD hS => ?_)
          have hw := hw.symm
          subst hw
          have hP : bP Γ [bSc Γ t (L.1, L.2.1, r9, L.2.2.2.1, L.2.2.2.2.1, L.2.2.2.2.2.1, L.2.2.2.2.2.2)] H := hP
          have hD : bD AA [bSc Γ t (L.1, L.2.1, r9, L.2.2.2.1, L.2.2.2.2.1, L.2.2.2.2.2.1, L.2.2.2.2.2.2)] := hD
          obtain ⟨wv, hwv⟩ : ∃ z : Int32, z = wI (wIx L.2.2.2.2.1 L.2.2.1 r9) := ⟨_, rfl⟩
          refine g_top (y := wv) (hwv.symm) ?_
          refine lv_istore_n (lv' := [(2, .int wv), (0, .ref (t 2)), (1, .int (nI (L.2.2.1)))]) zx zb dX7_takeWord_53 rfl hl (by decide) rfl (fun ls hl => ?_)
          refine lv_aload_n zx zb dX7_takeWord_54 rfl (lv_at hl 1 rfl) ?_
          refine g_get (v := .int L.2.2.2.1) XX hP 0 0 rfl rfl rfl iwX7 6 (by decide) fl_X7_28 rfl dX7_takeWord_55 ?_
          refine lv_iconst (v := (-1)) zx zb dX7_takeWord_58 (by decide) ?_
          refine lv_icmp_ne (tgt := 76) zx zb dX7_takeWord_59 (by decide) (fun c_59 => ?_) (fun c_59 => ?_)
          · have c_59 : ¬ (L.2.2.2.1 = (-1)) := c_59
            refine lv_iconst (v := nI 0) zx zb dX7_takeWord_76 (by decide) ?_
            exact fin _ _ (nI 0) (L.1, L.2.1, r9, L.2.2.2.1, L.2.2.2.2.1, L.2.2.2.2.2.1, L.2.2.2.2.2.2) 77 _ dX7_takeWord_77 (nar0) (by first | exact tw_no eq hq hL er ⟨rfl, rfl⟩ (Or.inl (fun z => c_59 (hR.2.1.trans ((dI_0 hd9).mpr z)))) | exact tw_no eq hq hL er ⟨rfl, rfl⟩ (Or.inr (Or.inl (wI_1 (hwv.symm.trans c_64) wIx_le)))) hP hD hS
          · have c_59 : L.2.2.2.1 = (-1) := c_59
            refine lv_iload_n zx zb dX7_takeWord_62 rfl (lv_at hl 0 rfl) ?_
            refine lv_iconst (v := (-1)) zx zb dX7_takeWord_63 (by decide) ?_
            refine lv_icmp_eq (tgt := 76) zx zb dX7_takeWord_64 (by decide) (fun c_64 => ?_) (fun c_64 => ?_)
            · have c_64 : wv = (-1) := c_64
              refine lv_iconst (v := nI 0) zx zb dX7_takeWord_76 (by decide) ?_
              exact fin _ _ (nI 0) (L.1, L.2.1, r9, L.2.2.2.1, L.2.2.2.2.1, L.2.2.2.2.2.1, L.2.2.2.2.2.2) 77 _ dX7_takeWord_77 (nar0) (by first | exact tw_no eq hq hL er ⟨rfl, rfl⟩ (Or.inl (fun z => c_59 (hR.2.1.trans ((dI_0 hd9).mpr z)))) | exact tw_no eq hq hL er ⟨rfl, rfl⟩ (Or.inr (Or.inl (wI_1 (hwv.symm.trans c_64) wIx_le)))) hP hD hS
            · have c_64 : ¬ (wv = (-1)) := c_64
              refine lv_aload_n zx zb dX7_takeWord_67 rfl (lv_at hl 1 rfl) ?_
              refine g_get (v := .int (nI (L.2.1))) XX hP 0 0 rfl rfl rfl iwX7 2 (by decide) fl_X7_21 rfl dX7_takeWord_68 ?_
              refine lv_bipush (v := nI 25) zx zb dX7_takeWord_71 (by decide) ?_
              refine lv_icmp_lt (tgt := 78) zx zb dX7_takeWord_73 (by decide) (fun c_73 => ?_) (fun c_73 => ?_)
              · have c_73 : L.2.1 < 25 := (nI_ltI (a := L.2.1) (b := 25) (by omega) (by omega)).mp c_73
                obtain ⟨wx, hwx, rfl⟩ := wv_nat hwv c_64
                have hd0 : S.2.1 = 0 := (dI_0 hd9).mp (hR.2.1.symm.trans c_59)
                refine lv_iload_n zx zb dX7_takeWord_78 rfl (lv_at hl 0 rfl) ?_
                refine lv_if_ne (tgt := 86) zx zb dX7_takeWord_79 (by decide) (fun c_79 => ?_) (fun c_79 => ?_)
                · have c_79 : ¬ (wx = 0) := fun h => c_79 ((nI_eq (a := wx) (b := 0) (by omega) (by omega)).mpr h)
                  refine lv_iconst (v := nI 0) zx zb dX7_takeWord_86 (by decide) ?_
                  refine lv_aload_n zx zb dX7_takeWord_87 rfl (lv_at hl 1 rfl) ?_
                  refine g_get (v := .int (nI (L.2.1))) XX hP 0 0 rfl rfl rfl iwX7 2 (by decide) fl_X7_21 rfl dX7_takeWord_88 ?_
                  refine lv_if_ne (tgt := 98) zx zb dX7_takeWord_91 (by decide) (fun c_91 => ?_) (fun c_91 => ?_)
                  · have c_91 : ¬ (L.2.1 = 0) := fun h => c_91 ((nI_eq (a := L.2.1) (b := 0) (by omega) (by omega)).mpr h)
                    refine lv_iconst (v := nI 0) zx zb dX7_takeWord_98 (by decide) ?_
                    refine lv_icmp_eq (tgt := 104) zx zb dX7_takeWord_99 (by decide) (fun c_99 => ?_) (fun c_99 => ?_)
                    · clear c_99
                      refine lv_aload_n zx zb dX7_takeWord_104 rfl (lv_at hl 1 rfl) ?_
                      refine g_get (v := .ref (t 6)) XX hP 0 0 rfl rfl rfl iwX7 4 (by decide) fl_X7_18 rfl dX7_takeWord_105 ?_
                      refine lv_aload_n zx zb dX7_takeWord_108 rfl (lv_at hl 1 rfl) ?_
                      refine g_get (v := .int (nI (L.2.1))) XX hP 0 0 rfl rfl rfl iwX7 2 (by decide) fl_X7_21 rfl dX7_takeWord_109 ?_
                      refine lv_iload_n zx zb dX7_takeWord_112 rfl (lv_at hl 0 rfl) ?_
                      refine g_iastN (x := nI wx) (i := L.2.1) (blk' := bSc Γ t (L.1, L.2.1, r9, L.2.2.2.1, L.2.2.2.2.1, L.2.2.2.2.2.1, upd L.2.2.2.2.2.2 L.2.1 (nI wx))) (bs' := [bSc Γ t (L.1, L.2.1, r9, L.2.2.2.1, L.2.2.2.2.1, L.2.2.2.2.2.1, upd L.2.2.2.2.2.2 L.2.1 (nI wx))]) XX hP hD hS 0 3 rfl rfl (by omega) (by decide) rfl rfl dX7_takeWord_113 (fun H locs hP hD hS => ?_)
                      refine lv_aload_n zx zb dX7_takeWord_114 rfl (lv_at hl 1 rfl) ?_
                      refine va_gets zx zb hLT.2.2.2.1.1 hS hown (hts _ fl_X7_65) (fun _ h => h) dX7_takeWord_115 ?_
                      refine lv_iload_n zx zb dX7_takeWord_118 rfl (lv_at hl 0 rfl) ?_
                      refine va_ti (v := .int (nI (nbN wx))) zx zb hLT.2.2.2.1.2 hS (vp_in_nI (by omega) (by decide)) (by rw [nI_clamp (by omega)]) dX7_takeWord_119 ?_
                      refine g_put (v := .int (nI (nbN wx))) (blk' := bSc Γ t (L.1, L.2.1, r9, nI (nbN wx), L.2.2.2.2.1, L.2.2.2.2.2.1, upd L.2.2.2.2.2.2 L.2.1 (nI wx))) (bs' := [bSc Γ t (L.1, L.2.1, r9, nI (nbN wx), L.2.2.2.2.1, L.2.2.2.2.2.1, upd L.2.2.2.2.2.2 L.2.1 (nI wx))]) XX hP hD hS 0 0 rfl rfl rfl iwX7 tyX7_ok nmX7 6 (by decide) fl_X7_28 rfl rfl rfl (Nat.le_of_ble_eq_true rfl) rfl rfl rfl dX7_takeWord_120 (fun H locs hP hD hS => ?_)
                      refine lv_iconst (v := nI 1) zx zb dX7_takeWord_123 (by decide) ?_
                      exact fin _ _ (nI 1) (L.1, L.2.1, r9, nI (nbN wx), L.2.2.2.2.1, L.2.2.2.2.2.1, upd L.2.2.2.2.2.2 L.2.1 (nI wx)) 124 _ dX7_takeWord_124 (nar1) (tw_ys hR eq hq hL er hd0 hwx.1 hwx.2 (by rw [← hR.1]; omega)) hP hD hS
                    · exact absurd c_99 (by decide)
                  · have c_91 : L.2.1 = 0 := (nI_eq (a := L.2.1) (b := 0) (by omega) (by omega)).mp c_91
                    refine lv_iconst (v := nI 1) zx zb dX7_takeWord_94 (by decide) ?_
                    refine lv_goto (tgt := 99) zx zb dX7_takeWord_95 (by decide) ?_
                    refine lv_icmp_eq (tgt := 104) zx zb dX7_takeWord_99 (by decide) (fun c_99 => ?_) (fun c_99 => ?_)
                    · exact absurd c_99 (by decide)
                    · clear c_99
                      refine lv_iconst (v := nI 0) zx zb dX7_takeWord_102 (by decide) ?_
                      exact fin _ _ (nI 0) (L.1, L.2.1, r9, L.2.2.2.1, L.2.2.2.2.1, L.2.2.2.2.2.1, L.2.2.2.2.2.2) 103 _ dX7_takeWord_103 (nar0) (tw_no eq hq hL er ⟨rfl, rfl⟩ (Or.inr (Or.inr (by rw [hwx.2, ← hR.1]; omega)))) hP hD hS
                · have c_79 : wx = 0 := (nI_eq (a := wx) (b := 0) (by omega) (by omega)).mp c_79
                  refine lv_iconst (v := nI 1) zx zb dX7_takeWord_82 (by decide) ?_
                  refine lv_goto (tgt := 87) zx zb dX7_takeWord_83 (by decide) ?_
                  refine lv_aload_n zx zb dX7_takeWord_87 rfl (lv_at hl 1 rfl) ?_
                  refine g_get (v := .int (nI (L.2.1))) XX hP 0 0 rfl rfl rfl iwX7 2 (by decide) fl_X7_21 rfl dX7_takeWord_88 ?_
                  refine lv_if_ne (tgt := 98) zx zb dX7_takeWord_91 (by decide) (fun c_91 => ?_) (fun c_91 => ?_)
                  · have c_91 : ¬ (L.2.1 = 0) := fun h => c_91 ((nI_eq (a := L.2.1) (b := 0) (by omega) (by omega)).mpr h)
                    refine lv_iconst (v := nI 0) zx zb dX7_takeWord_98 (by decide) ?_
                    refine lv_icmp_eq (tgt := 104) zx zb dX7_takeWord_99 (by decide) (fun c_99 => ?_) (fun c_99 => ?_)
                    · exact absurd c_99 (by decide)
                    · clear c_99
                      refine lv_iconst (v := nI 0) zx zb dX7_takeWord_102 (by decide) ?_
                      exact fin _ _ (nI 0) (L.1, L.2.1, r9, L.2.2.2.1, L.2.2.2.2.1, L.2.2.2.2.2.1, L.2.2.2.2.2.2) 103 _ dX7_takeWord_103 (nar0) (tw_no eq hq hL er ⟨rfl, rfl⟩ (Or.inr (Or.inr (by rw [hwx.2, ← hR.1]; omega)))) hP hD hS
                  · have c_91 : L.2.1 = 0 := (nI_eq (a := L.2.1) (b := 0) (by omega) (by omega)).mp c_91
                    refine lv_iconst (v := nI 1) zx zb dX7_takeWord_94 (by decide) ?_
                    refine lv_goto (tgt := 99) zx zb dX7_takeWord_95 (by decide) ?_
                    refine lv_icmp_eq (tgt := 104) zx zb dX7_takeWord_99 (by decide) (fun c_99 => ?_) (fun c_99 => ?_)
                    · clear c_99
                      refine lv_aload_n zx zb dX7_takeWord_104 rfl (lv_at hl 1 rfl) ?_
                      refine g_get (v := .ref (t 6)) XX hP 0 0 rfl rfl rfl iwX7 4 (by decide) fl_X7_18 rfl dX7_takeWord_105 ?_
                      refine lv_aload_n zx zb dX7_takeWord_108 rfl (lv_at hl 1 rfl) ?_
                      refine g_get (v := .int (nI (L.2.1))) XX hP 0 0 rfl rfl rfl iwX7 2 (by decide) fl_X7_21 rfl dX7_takeWord_109 ?_
                      refine lv_iload_n zx zb dX7_takeWord_112 rfl (lv_at hl 0 rfl) ?_
                      refine g_iastN (x := nI wx) (i := L.2.1) (blk' := bSc Γ t (L.1, L.2.1, r9, L.2.2.2.1, L.2.2.2.2.1, L.2.2.2.2.2.1, upd L.2.2.2.2.2.2 L.2.1 (nI wx))) (bs' := [bSc Γ t (L.1, L.2.1, r9, L.2.2.2.1, L.2.2.2.2.1, L.2.2.2.2.2.1, upd L.2.2.2.2.2.2 L.2.1 (nI wx))]) XX hP hD hS 0 3 rfl rfl (by omega) (by decide) rfl rfl dX7_takeWord_113 (fun H locs hP hD hS => ?_)
                      refine lv_aload_n zx zb dX7_takeWord_114 rfl (lv_at hl 1 rfl) ?_
                      refine va_gets zx zb hLT.2.2.2.1.1 hS hown (hts _ fl_X7_65) (fun _ h => h) dX7_takeWord_115 ?_
                      refine lv_iload_n zx zb dX7_takeWord_118 rfl (lv_at hl 0 rfl) ?_
                      refine va_ti (v := .int (nI (nbN wx))) zx zb hLT.2.2.2.1.2 hS (vp_in_nI (by omega) (by decide)) (by rw [nI_clamp (by omega)]) dX7_takeWord_119 ?_
                      refine g_put (v := .int (nI (nbN wx))) (blk' := bSc Γ t (L.1, L.2.1, r9, nI (nbN wx), L.2.2.2.2.1, L.2.2.2.2.2.1, upd L.2.2.2.2.2.2 L.2.1 (nI wx))) (bs' := [bSc Γ t (L.1, L.2.1, r9, nI (nbN wx), L.2.2.2.2.1, L.2.2.2.2.2.1, upd L.2.2.2.2.2.2 L.2.1 (nI wx))]) XX hP hD hS 0 0 rfl rfl rfl iwX7 tyX7_ok nmX7 6 (by decide) fl_X7_28 rfl rfl rfl (Nat.le_of_ble_eq_true rfl) rfl rfl rfl dX7_takeWord_120 (fun H locs hP hD hS => ?_)
                      refine lv_iconst (v := nI 1) zx zb dX7_takeWord_123 (by decide) ?_
                      exact fin _ _ (nI 1) (L.1, L.2.1, r9, nI (nbN wx), L.2.2.2.2.1, L.2.2.2.2.2.1, upd L.2.2.2.2.2.2 L.2.1 (nI wx)) 124 _ dX7_takeWord_124 (nar1) (tw_ys hR eq hq hL er hd0 hwx.1 hwx.2 (by rw [← hR.1]; omega)) hP hD hS
                    · exact absurd c_99 (by decide)
              · have c_73 : ¬ (L.2.1 < 25) := fun h => c_73 ((nI_ltI (a := L.2.1) (b := 25) (by omega) (by omega)).mpr h)
                exact absurd hit c_73
        · have c_28 : (isL (L.2.2.2.2.1 r9)) = true := bI_ne c_28
          refine lv_aload_n zx zb dX7_takeWord_31 rfl (lv_at hl 0 rfl) ?_
          refine lv_dup zx zb dX7_takeWord_32 rfl ?_
          refine g_get (v := .int (nI r9)) XX hP 0 0 rfl rfl rfl iwX7 5 (by decide) fl_X7_25 rfl dX7_takeWord_33 ?_
          refine lv_iconst (v := nI 1) zx zb dX7_takeWord_36 (by decide) ?_
          refine lv_iadd zx zb dX7_takeWord_37 ?_
          refine g_top (y := nI (r9 + 1)) (nI_add r9 1) ?_
          refine g_put (v := .int (nI (r9 + 1))) (blk' := bSc Γ t (L.1, L.2.1, r9 + 1, L.2.2.2.1, L.2.2.2.2.1, L.2.2.2.2.2.1, L.2.2.2.2.2.2)) (bs' := [bSc Γ t (L.1, L.2.1, r9 + 1, L.2.2.2.1, L.2.2.2.2.1, L.2.2.2.2.2.1, L.2.2.2.2.2.2)]) XX hP hD hS 0 0 rfl rfl rfl iwX7 tyX7_ok nmX7 5 (by decide) fl_X7_25 rfl rfl rfl (Nat.le_of_ble_eq_true rfl) rfl rfl rfl dX7_takeWord_38 (fun H locs hP hD hS => ?_)
          refine lv_goto (tgt := 5) zx zb dX7_takeWord_41 (by decide) ?_
          exact ih5 (r9 + 1) (by omega) (run_b hrun c_28) (by omega) _ _ hP hD hS _ (lv_sub hl [0, 1] rfl)
  exact L5 _ L.2.2.1 (⟨Nat.le_refl _, by omega⟩) (fun i h1 h2 => absurd h1 (by omega)) (Nat.lt_succ_self _) _ _ hP hD hS _ (lv_sub hl [1, 0] rfl)

set_option maxHeartbeats 4000000 in
set_option maxRecDepth 100000 in
theorem c_X7_takeNumber (Γ : GG) (l : Launch) (t : Nat → Nat) (L : ScV) (K : AK) (S : PS) (hR : scR L S) (hI : pI L.1 S) (eq : nxt L.2.2.2.2.1 L.1 S.1 = L.2.2.1) (hq : L.2.2.1 < L.1) (hl0 : L.1 ≤ 150) (hL : isL (L.2.2.2.2.1 L.2.2.1) = false) (hF : isF (L.2.2.2.2.1 L.2.2.1) = true) : Cia K Γ l yX7_takeNumber cX7_takeNumber 4 (some (.boolean)) 2 42 0 0 [.ref (t 2)] [bSc Γ t L] (fun (r : Int32) (u : ScV) => tkP L.2.2.2.2.1 L.1 S r u) (fun (u : ScV) => [bSc Γ t u]) := by
  refine Cia.of (ty := .boolean) rfl (by decide) (Nat.le_of_ble_eq_true rfl) ?_
  intro pp ee ss mm bb me cd AA QQ XX hLT hnm hA hP hD fin ls hl
  obtain ⟨zx, zb, hml, hown, hts, hK⟩ := id XX
  have hS : va_S AA ss.heap ss.heap [] := va_S.rf
  have hl : lv_has ls 4 [(0, .ref (t 2))] := hl
  have hit : L.2.1 < 25 := by have h8 := hR.1; have h9 := nxt_le (g := L.2.2.2.2.1) hI.1; rw [eq] at h9; rcases hI.2.1 with z | z <;> omega
  have hd9 : S.2.1 < 1000 := by rcases hI.2.1 with z | z; omega; (have := nbN_le (S.2.2.2.1 S.2.2.1); omega)
  refine lv_aload_n zx zb dX7_takeNumber_0 rfl (lv_at hl 0 rfl) ?_
  refine g_get (v := .int (nI (L.2.2.1))) XX hP 0 0 rfl rfl rfl iwX7 5 (by decide) fl_X7_25 rfl dX7_takeNumber_1 ?_
  refine lv_istore_n (lv' := [(1, .int (nI (L.2.2.1))), (0, .ref (t 2))]) zx zb dX7_takeNumber_4 rfl hl (by decide) rfl (fun ls hl => ?_)
  refine lv_iconst (v := nI 0) zx zb dX7_takeNumber_5 (by decide) ?_
  refine lv_istore_n (lv' := [(2, .int (nI 0)), (1, .int (nI (L.2.2.1))), (0, .ref (t 2))]) zx zb dX7_takeNumber_6 rfl hl (by decide) rfl (fun ls hl => ?_)
  have L7 : ∀ (nn : Nat) (r9 : Nat) (v : Int32), (L.2.2.1 ≤ r9 ∧ r9 ≤ L.1) → (∀ i, L.2.2.1 ≤ i → i < r9 → isF (L.2.2.2.2.1 i) = true) → (v = nVal L.2.2.2.2.1 L.2.2.1 (r9 - L.2.2.1)) → L.1 - r9 < nn → ∀ (H : Heap) (locs : List Loc), bP Γ [bSc Γ t (L.1, L.2.1, r9, L.2.2.2.1, L.2.2.2.2.1, L.2.2.2.2.2.1, L.2.2.2.2.2.2)] H → bD AA [bSc Γ t (L.1, L.2.1, r9, L.2.2.2.1, L.2.2.2.2.1, L.2.2.2.2.2.1, L.2.2.2.2.2.2)] → va_S AA ss.heap H locs → ∀ (ls : Array Slot), lv_has ls 4 [(0, .ref (t 2)), (1, .int (nI (L.2.2.1))), (2, .int v)] → W pp l ee { frames := 2, cells := 0, slots := 0, locals := 42 } ss mm [.ref (t 2)].toArray bb me cd H locs 0 0 QQ (F0 mm 7 ls []) := by
    intro nn
    induction nn with
    | zero => intro r9 v hr hrun hv hm; exact absurd hm (Nat.not_lt_zero _)
    | succ nn ih7 =>
      intro r9 v hr hrun hv hm7 H locs hP hD hS ls hl
      refine lv_aload_n zx zb dX7_takeNumber_7 rfl (lv_at hl 0 rfl) ?_
      refine g_get (v := .int (nI r9)) XX hP 0 0 rfl rfl rfl iwX7 5 (by decide) fl_X7_25 rfl dX7_takeNumber_8 ?_
      refine lv_aload_n zx zb dX7_takeNumber_11 rfl (lv_at hl 0 rfl) ?_
      refine g_get (v := .int (nI (L.1))) XX hP 0 0 rfl rfl rfl iwX7 1 (by decide) fl_X7_34 rfl dX7_takeNumber_12 ?_
      refine lv_icmp_ge (tgt := 64) zx zb dX7_takeNumber_15 (by decide) (fun c_15 => ?_) (fun c_15 => ?_)
      · have c_15 : L.1 ≤ r9 := (nI_leI (a := L.1) (b := r9) (by omega) (by omega)).mp c_15
        have er : fE L.2.2.2.2.1 L.1 L.2.2.1 = r9 := fE_eq hr.1 hr.2 hrun (by first | exact Or.inl (by omega) | exact Or.inr c_30)
        refine lv_aload_n zx zb dX7_takeNumber_64 rfl (lv_at hl 0 rfl) ?_
        refine g_get (v := .int L.2.2.2.1) XX hP 0 0 rfl rfl rfl iwX7 6 (by decide) fl_X7_28 rfl dX7_takeNumber_65 ?_
        refine lv_if_le (tgt := 81) zx zb dX7_takeNumber_68 (by decide) (fun c_68 => ?_) (fun c_68 => ?_)
        · have c_68 : L.2.2.2.1 ≤ (0 : Int32) := c_68
          refine lv_iconst (v := nI 0) zx zb dX7_takeNumber_81 (by decide) ?_
          exact fin _ _ (nI 0) (L.1, L.2.1, r9, L.2.2.2.1, L.2.2.2.2.1, L.2.2.2.2.2.1, L.2.2.2.2.2.2) 82 _ dX7_takeNumber_82 (nar0) (by first | exact tn_no eq hq hL hF er ⟨rfl, rfl⟩ (Or.inl ((dI_2 hd9).mp (hR.2.1 ▸ c_68))) | exact tn_no eq hq hL hF er ⟨rfl, rfl⟩ (Or.inr c_78)) hP hD hS
        · have c_68 : ¬ (L.2.2.2.1 ≤ (0 : Int32)) := c_68
          refine lv_aload_n zx zb dX7_takeNumber_71 rfl (lv_at hl 0 rfl) ?_
          refine g_get (v := .int (nI r9)) XX hP 0 0 rfl rfl rfl iwX7 5 (by decide) fl_X7_25 rfl dX7_takeNumber_72 ?_
          refine lv_iload_n zx zb dX7_takeNumber_75 rfl (lv_at hl 1 rfl) ?_
          refine lv_isub zx zb dX7_takeNumber_76 ?_
          refine g_top (y := nI (r9 - L.2.2.1)) (pk_sub (by omega)) ?_
          refine lv_iconst (v := nI 2) zx zb dX7_takeNumber_77 (by decide) ?_
          refine lv_icmp_le (tgt := 83) zx zb dX7_takeNumber_78 (by decide) (fun c_78 => ?_) (fun c_78 => ?_)
          · have c_78 : r9 - L.2.2.1 ≤ 2 := (nI_leI (a := r9 - L.2.2.1) (b := 2) (by omega) (by omega)).mp c_78
            have hd2 : 2 ≤ S.2.1 := Classical.byContradiction fun z => c_68 (by rw [hR.2.1]; exact (dI_2 hd9).mpr z)
            have hz9 : S.2.2.2.1 S.2.2.1 < 6 ∧ S.2.1 ≤ nbN (S.2.2.2.1 S.2.2.1) + 1 := by rcases hI.2.1 with z | z; omega; exact ⟨z.2.1, z.2.2.1⟩
            have hnb := nbN_le (S.2.2.2.1 S.2.2.1)
            refine va_gets zx zb hLT.2.2.2.1.1 hS hown (hts _ fl_X7_65) (fun _ h => h) dX7_takeNumber_83 ?_
            refine lv_aload_n zx zb dX7_takeNumber_86 rfl (lv_at hl 0 rfl) ?_
            refine g_get (v := .ref (t 6)) XX hP 0 0 rfl rfl rfl iwX7 4 (by decide) fl_X7_18 rfl dX7_takeNumber_87 ?_
            refine lv_aload_n zx zb dX7_takeNumber_90 rfl (lv_at hl 0 rfl) ?_
            refine g_get (v := .int (nI (L.2.1))) XX hP 0 0 rfl rfl rfl iwX7 2 (by decide) fl_X7_21 rfl dX7_takeNumber_91 ?_
            refine g_ialdN (i := L.2.1) XX hP 0 3 rfl rfl (by omega) (by decide) dX7_takeNumber_94 ?_
            refine g_top (y := nI (S.2.2.2.1 S.2.2.1)) (by rw [hR.1]; exact (hR.2.2.2 (by omega)).1) ?_
            refine va_ti (v := .int (nI (nbN (S.2.2.2.1 S.2.2.1)))) zx zb hLT.2.2.2.1.2 hS (vp_in_nI (by omega) (by decide)) (by rw [nI_clamp (by omega)]) dX7_takeNumber_95 ?_
            refine lv_aload_n zx zb dX7_takeNumber_96 rfl (lv_at hl 0 rfl) ?_
            refine g_get (v := .int L.2.2.2.1) XX hP 0 0 rfl rfl rfl iwX7 6 (by decide) fl_X7_28 rfl dX7_takeNumber_97 ?_
            refine lv_isub zx zb dX7_takeNumber_100 ?_
            refine g_top (y := nI (nbN (S.2.2.2.1 S.2.2.1) + 1 - S.2.1)) (by rw [hR.2.1]; unfold dI; rw [if_neg (by omega), pk_sub (by omega)]; congr 1; omega) ?_
            refine lv_istore_n (lv' := [(3, .int (nI (nbN (S.2.2.2.1 S.2.2.1) + 1 - S.2.1))), (0, .ref (t 2)), (1, .int (nI (L.2.2.1))), (2, .int v)]) zx zb dX7_takeNumber_101 rfl hl (by decide) rfl (fun ls hl => ?_)
            refine lv_aload_n zx zb dX7_takeNumber_102 rfl (lv_at hl 1 rfl) ?_
            refine g_get (v := .ref (t 5)) XX hP 0 0 rfl rfl rfl iwX7 3 (by decide) fl_X7_15 rfl dX7_takeNumber_103 ?_
            refine lv_aload_n zx zb dX7_takeNumber_106 rfl (lv_at hl 1 rfl) ?_
            refine g_get (v := .int (nI (L.2.1))) XX hP 0 0 rfl rfl rfl iwX7 2 (by decide) fl_X7_21 rfl dX7_takeNumber_107 ?_
            refine lv_bipush (v := nI 6) zx zb dX7_takeNumber_110 (by decide) ?_
            refine lv_imul zx zb dX7_takeNumber_112 ?_
            refine g_top (y := nI (L.2.1 * 6)) (pk_mul L.2.1 6) ?_
            refine lv_iload_n zx zb dX7_takeNumber_113 rfl (lv_at hl 0 rfl) ?_
            refine lv_iadd zx zb dX7_takeNumber_114 ?_
            refine g_top (y := nI (L.2.1 * 6 + (nbN (S.2.2.2.1 S.2.2.1) + 1 - S.2.1))) (nI_add (L.2.1 * 6) (nbN (S.2.2.2.1 S.2.2.1) + 1 - S.2.1)) ?_
            refine lv_iload_n zx zb dX7_takeNumber_115 rfl (lv_at hl 3 rfl) ?_
            refine g_iastN (x := v) (i := L.2.1 * 6 + (nbN (S.2.2.2.1 S.2.2.1) + 1 - S.2.1)) (blk' := bSc Γ t (L.1, L.2.1, r9, L.2.2.2.1, L.2.2.2.2.1, upd L.2.2.2.2.2.1 (L.2.1 * 6 + (nbN (S.2.2.2.1 S.2.2.1) + 1 - S.2.1)) v, L.2.2.2.2.2.2)) (bs' := [bSc Γ t (L.1, L.2.1, r9, L.2.2.2.1, L.2.2.2.2.1, upd L.2.2.2.2.2.1 (L.2.1 * 6 + (nbN (S.2.2.2.1 S.2.2.1) + 1 - S.2.1)) v, L.2.2.2.2.2.2)]) XX hP hD hS 0 2 rfl rfl (by omega) (by decide) rfl rfl dX7_takeNumber_116 (fun H locs hP hD hS => ?_)
            refine lv_aload_n zx zb dX7_takeNumber_117 rfl (lv_at hl 1 rfl) ?_
            refine lv_dup zx zb dX7_takeNumber_118 rfl ?_
            refine g_get (v := .int L.2.2.2.1) XX hP 0 0 rfl rfl rfl iwX7 6 (by decide) fl_X7_28 rfl dX7_takeNumber_119 ?_
            refine lv_iconst (v := nI 1) zx zb dX7_takeNumber_122 (by decide) ?_
            refine lv_isub zx zb dX7_takeNumber_123 ?_
            refine g_top (y := L.2.2.2.1 - 1) rfl ?_
            refine g_put (v := .int (L.2.2.2.1 - 1)) (blk' := bSc Γ t (L.1, L.2.1, r9, L.2.2.2.1 - 1, L.2.2.2.2.1, upd L.2.2.2.2.2.1 (L.2.1 * 6 + (nbN (S.2.2.2.1 S.2.2.1) + 1 - S.2.1)) v, L.2.2.2.2.2.2)) (bs' := [bSc Γ t (L.1, L.2.1, r9, L.2.2.2.1 - 1, L.2.2.2.2.1, upd L.2.2.2.2.2.1 (L.2.1 * 6 + (nbN (S.2.2.2.1 S.2.2.1) + 1 - S.2.1)) v, L.2.2.2.2.2.2)]) XX hP hD hS 0 0 rfl rfl rfl iwX7 tyX7_ok nmX7 6 (by decide) fl_X7_28 rfl rfl rfl (Nat.le_of_ble_eq_true rfl) rfl rfl rfl dX7_takeNumber_124 (fun H locs hP hD hS => ?_)
            refine lv_iconst (v := nI 1) zx zb dX7_takeNumber_127 (by decide) ?_
            exact fin _ _ (nI 1) (L.1, L.2.1, r9, L.2.2.2.1 - 1, L.2.2.2.2.1, upd L.2.2.2.2.2.1 (L.2.1 * 6 + (nbN (S.2.2.2.1 S.2.2.1) + 1 - S.2.1)) v, L.2.2.2.2.2.2) 128 _ dX7_takeNumber_128 (nar1) (tn_ys hR eq hq hL hF er hd2 hz9.2 c_78 hv) hP hD hS
          · have c_78 : ¬ (r9 - L.2.2.1 ≤ 2) := fun h => c_78 ((nI_leI (a := r9 - L.2.2.1) (b := 2) (by omega) (by omega)).mpr h)
            refine lv_iconst (v := nI 0) zx zb dX7_takeNumber_81 (by decide) ?_
            exact fin _ _ (nI 0) (L.1, L.2.1, r9, L.2.2.2.1, L.2.2.2.2.1, L.2.2.2.2.2.1, L.2.2.2.2.2.2) 82 _ dX7_takeNumber_82 (nar0) (by first | exact tn_no eq hq hL hF er ⟨rfl, rfl⟩ (Or.inl ((dI_2 hd9).mp (hR.2.1 ▸ c_68))) | exact tn_no eq hq hL hF er ⟨rfl, rfl⟩ (Or.inr c_78)) hP hD hS
      · have c_15 : ¬ (L.1 ≤ r9) := fun h => c_15 ((nI_leI (a := L.1) (b := r9) (by omega) (by omega)).mpr h)
        refine lv_aload_n zx zb dX7_takeNumber_18 rfl (lv_at hl 0 rfl) ?_
        refine g_get (v := .ref (t 4)) XX hP 0 0 rfl rfl rfl iwX7 0 (by decide) fl_X7_9 rfl dX7_takeNumber_19 ?_
        refine lv_aload_n zx zb dX7_takeNumber_22 rfl (lv_at hl 0 rfl) ?_
        refine g_get (v := .int (nI r9)) XX hP 0 0 rfl rfl rfl iwX7 5 (by decide) fl_X7_25 rfl dX7_takeNumber_23 ?_
        refine g_ialdN (i := r9) XX hP 0 1 rfl rfl (by omega) (by decide) dX7_takeNumber_26 ?_
        refine callR_Si (As := [.int (L.2.2.2.2.1 r9)]) (rest := []) XX cs_X7_48 (c_X7_isFigure Γ l (L.2.2.2.2.1 r9) ) hP hD hS hA nil_mem nil_D rfl hl.1 rfl ⟨⟨by decide, by decide⟩, by decide, by decide⟩ (Nat.le_of_ble_eq_true rfl) dX7_takeNumber_27 (fun r_27 H locs hw hP hS => ?_)
        have hw := hw.symm
        subst hw
        refine lv_if_eq (tgt := 64) zx zb dX7_takeNumber_30 (by decide) (fun c_30 => ?_) (fun c_30 => ?_)
        · have c_30 : (isF (L.2.2.2.2.1 r9)) = false := bI_0.mp c_30
          have er : fE L.2.2.2.2.1 L.1 L.2.2.1 = r9 := fE_eq hr.1 hr.2 hrun (by first | exact Or.inl (by omega) | exact Or.inr c_30)
          refine lv_aload_n zx zb dX7_takeNumber_64 rfl (lv_at hl 0 rfl) ?_
          refine g_get (v := .int L.2.2.2.1) XX hP 0 0 rfl rfl rfl iwX7 6 (by decide) fl_X7_28 rfl dX7_takeNumber_65 ?_
          refine lv_if_le (tgt := 81) zx zb dX7_takeNumber_68 (by decide) (fun c_68 => ?_) (fun c_68 => ?_)
          · have c_68 : L.2.2.2.1 ≤ (0 : Int32) := c_68
            refine lv_iconst (v := nI 0) zx zb dX7_takeNumber_81 (by decide) ?_
            exact fin _ _ (nI 0) (L.1, L.2.1, r9, L.2.2.2.1, L.2.2.2.2.1, L.2.2.2.2.2.1, L.2.2.2.2.2.2) 82 _ dX7_takeNumber_82 (nar0) (by first | exact tn_no eq hq hL hF er ⟨rfl, rfl⟩ (Or.inl ((dI_2 hd9).mp (hR.2.1 ▸ c_68))) | exact tn_no eq hq hL hF er ⟨rfl, rfl⟩ (Or.inr c_78)) hP hD hS
          · have c_68 : ¬ (L.2.2.2.1 ≤ (0 : Int32)) := c_68
            refine lv_aload_n zx zb dX7_takeNumber_71 rfl (lv_at hl 0 rfl) ?_
            refine g_get (v := .int (nI r9)) XX hP 0 0 rfl rfl rfl iwX7 5 (by decide) fl_X7_25 rfl dX7_takeNumber_72 ?_
            refine lv_iload_n zx zb dX7_takeNumber_75 rfl (lv_at hl 1 rfl) ?_
            refine lv_isub zx zb dX7_takeNumber_76 ?_
            refine g_top (y := nI (r9 - L.2.2.1)) (pk_sub (by omega)) ?_
            refine lv_iconst (v := nI 2) zx zb dX7_takeNumber_77 (by decide) ?_
            refine lv_icmp_le (tgt := 83) zx zb dX7_takeNumber_78 (by decide) (fun c_78 => ?_) (fun c_78 => ?_)
            · have c_78 : r9 - L.2.2.1 ≤ 2 := (nI_leI (a := r9 - L.2.2.1) (b := 2) (by omega) (by omega)).mp c_78
              have hd2 : 2 ≤ S.2.1 := Classical.byContradiction fun z => c_68 (by rw [hR.2.1]; exact (dI_2 hd9).mpr z)
              have hz9 : S.2.2.2.1 S.2.2.1 < 6 ∧ S.2.1 ≤ nbN (S.2.2.2.1 S.2.2.1) + 1 := by rcases hI.2.1 with z | z; omega; exact ⟨z.2.1, z.2.2.1⟩
              have hnb := nbN_le (S.2.2.2.1 S.2.2.1)
              refine va_gets zx zb hLT.2.2.2.1.1 hS hown (hts _ fl_X7_65) (fun _ h => h) dX7_takeNumber_83 ?_
              refine lv_aload_n zx zb dX7_takeNumber_86 rfl (lv_at hl 0 rfl) ?_
              refine g_get (v := .ref (t 6)) XX hP 0 0 rfl rfl rfl iwX7 4 (by decide) fl_X7_18 rfl dX7_takeNumber_87 ?_
              refine lv_aload_n zx zb dX7_takeNumber_90 rfl (lv_at hl 0 rfl) ?_
              refine g_get (v := .int (nI (L.2.1))) XX hP 0 0 rfl rfl rfl iwX7 2 (by decide) fl_X7_21 rfl dX7_takeNumber_91 ?_
              refine g_ialdN (i := L.2.1) XX hP 0 3 rfl rfl (by omega) (by decide) dX7_takeNumber_94 ?_
              refine g_top (y := nI (S.2.2.2.1 S.2.2.1)) (by rw [hR.1]; exact (hR.2.2.2 (by omega)).1) ?_
              refine va_ti (v := .int (nI (nbN (S.2.2.2.1 S.2.2.1)))) zx zb hLT.2.2.2.1.2 hS (vp_in_nI (by omega) (by decide)) (by rw [nI_clamp (by omega)]) dX7_takeNumber_95 ?_
              refine lv_aload_n zx zb dX7_takeNumber_96 rfl (lv_at hl 0 rfl) ?_
              refine g_get (v := .int L.2.2.2.1) XX hP 0 0 rfl rfl rfl iwX7 6 (by decide) fl_X7_28 rfl dX7_takeNumber_97 ?_
              refine lv_isub zx zb dX7_takeNumber_100 ?_
              refine g_top (y := nI (nbN (S.2.2.2.1 S.2.2.1) + 1 - S.2.1)) (by rw [hR.2.1]; unfold dI; rw [if_neg (by omega), pk_sub (by omega)]; congr 1; omega) ?_
              refine lv_istore_n (lv' := [(3, .int (nI (nbN (S.2.2.2.1 S.2.2.1) + 1 - S.2.1))), (0, .ref (t 2)), (1, .int (nI (L.2.2.1))), (2, .int v)]) zx zb dX7_takeNumber_101 rfl hl (by decide) rfl (fun ls hl => ?_)
              refine lv_aload_n zx zb dX7_takeNumber_102 rfl (lv_at hl 1 rfl) ?_
              refine g_get (v := .ref (t 5)) XX hP 0 0 rfl rfl rfl iwX7 3 (by decide) fl_X7_15 rfl dX7_takeNumber_103 ?_
              refine lv_aload_n zx zb dX7_takeNumber_106 rfl (lv_at hl 1 rfl) ?_
              refine g_get (v := .int (nI (L.2.1))) XX hP 0 0 rfl rfl rfl iwX7 2 (by decide) fl_X7_21 rfl dX7_takeNumber_107 ?_
              refine lv_bipush (v := nI 6) zx zb dX7_takeNumber_110 (by decide) ?_
              refine lv_imul zx zb dX7_takeNumber_112 ?_
              refine g_top (y := nI (L.2.1 * 6)) (pk_mul L.2.1 6) ?_
              refine lv_iload_n zx zb dX7_takeNumber_113 rfl (lv_at hl 0 rfl) ?_
              refine lv_iadd zx zb dX7_takeNumber_114 ?_
              refine g_top (y := nI (L.2.1 * 6 + (nbN (S.2.2.2.1 S.2.2.1) + 1 - S.2.1))) (nI_add (L.2.1 * 6) (nbN (S.2.2.2.1 S.2.2.1) + 1 - S.2.1)) ?_
              refine lv_iload_n zx zb dX7_takeNumber_115 rfl (lv_at hl 3 rfl) ?_
              refine g_iastN (x := v) (i := L.2.1 * 6 + (nbN (S.2.2.2.1 S.2.2.1) + 1 - S.2.1)) (blk' := bSc Γ t (L.1, L.2.1, r9, L.2.2.2.1, L.2.2.2.2.1, upd L.2.2.2.2.2.1 (L.2.1 * 6 + (nbN (S.2.2.2.1 S.2.2.1) + 1 - S.2.1)) v, L.2.2.2.2.2.2)) (bs' := [bSc Γ t (L.1, L.2.1, r9, L.2.2.2.1, L.2.2.2.2.1, upd L.2.2.2.2.2.1 (L.2.1 * 6 + (nbN (S.2.2.2.1 S.2.2.1) + 1 - S.2.1)) v, L.2.2.2.2.2.2)]) XX hP hD hS 0 2 rfl rfl (by omega) (by decide) rfl rfl dX7_takeNumber_116 (fun H locs hP hD hS => ?_)
              refine lv_aload_n zx zb dX7_takeNumber_117 rfl (lv_at hl 1 rfl) ?_
              refine lv_dup zx zb dX7_takeNumber_118 rfl ?_
              refine g_get (v := .int L.2.2.2.1) XX hP 0 0 rfl rfl rfl iwX7 6 (by decide) fl_X7_28 rfl dX7_takeNumber_119 ?_
              refine lv_iconst (v := nI 1) zx zb dX7_takeNumber_122 (by decide) ?_
              refine lv_isub zx zb dX7_takeNumber_123 ?_
              refine g_top (y := L.2.2.2.1 - 1) rfl ?_
              refine g_put (v := .int (L.2.2.2.1 - 1)) (blk' := bSc Γ t (L.1, L.2.1, r9, L.2.2.2.1 - 1, L.2.2.2.2.1, upd L.2.2.2.2.2.1 (L.2.1 * 6 + (nbN (S.2.2.2.1 S.2.2.1) + 1 - S.2.1)) v, L.2.2.2.2.2.2)) (bs' := [bSc Γ t (L.1, L.2.1, r9, L.2.2.2.1 - 1, L.2.2.2.2.1, upd L.2.2.2.2.2.1 (L.2.1 * 6 + (nbN (S.2.2.2.1 S.2.2.1) + 1 - S.2.1)) v, L.2.2.2.2.2.2)]) XX hP hD hS 0 0 rfl rfl rfl iwX7 tyX7_ok nmX7 6 (by decide) fl_X7_28 rfl rfl rfl (Nat.le_of_ble_eq_true rfl) rfl rfl rfl dX7_takeNumber_124 (fun H locs hP hD hS => ?_)
              refine lv_iconst (v := nI 1) zx zb dX7_takeNumber_127 (by decide) ?_
              exact fin _ _ (nI 1) (L.1, L.2.1, r9, L.2.2.2.1 - 1, L.2.2.2.2.1, upd L.2.2.2.2.2.1 (L.2.1 * 6 + (nbN (S.2.2.2.1 S.2.2.1) + 1 - S.2.1)) v, L.2.2.2.2.2.2) 128 _ dX7_takeNumber_128 (nar1) (tn_ys hR eq hq hL hF er hd2 hz9.2 c_78 hv) hP hD hS
            · have c_78 : ¬ (r9 - L.2.2.1 ≤ 2) := fun h => c_78 ((nI_leI (a := r9 - L.2.2.1) (b := 2) (by omega) (by omega)).mpr h)
              refine lv_iconst (v := nI 0) zx zb dX7_takeNumber_81 (by decide) ?_
              exact fin _ _ (nI 0) (L.1, L.2.1, r9, L.2.2.2.1, L.2.2.2.2.1, L.2.2.2.2.2.1, L.2.2.2.2.2.2) 82 _ dX7_takeNumber_82 (nar0) (by first | exact tn_no eq hq hL hF er ⟨rfl, rfl⟩ (Or.inl ((dI_2 hd9).mp (hR.2.1 ▸ c_68))) | exact tn_no eq hq hL hF er ⟨rfl, rfl⟩ (Or.inr c_78)) hP hD hS
        · have c_30 : (isF (L.2.2.2.2.1 r9)) = true := bI_ne c_30
          refine lv_bipush (v := nI 10) zx zb dX7_takeNumber_33 (by decide) ?_
          refine lv_iload_n zx zb dX7_takeNumber_35 rfl (lv_at hl 2 rfl) ?_
          refine lv_imul zx zb dX7_takeNumber_36 ?_
          refine g_top (y := 10 * v) rfl ?_
          refine lv_aload_n zx zb dX7_takeNumber_37 rfl (lv_at hl 0 rfl) ?_
          refine g_get (v := .ref (t 4)) XX hP 0 0 rfl rfl rfl iwX7 0 (by decide) fl_X7_9 rfl dX7_takeNumber_38 ?_
          refine lv_aload_n zx zb dX7_takeNumber_41 rfl (lv_at hl 0 rfl) ?_
          refine g_get (v := .int (nI r9)) XX hP 0 0 rfl rfl rfl iwX7 5 (by decide) fl_X7_25 rfl dX7_takeNumber_42 ?_
          refine g_ialdN (i := r9) XX hP 0 1 rfl rfl (by omega) (by decide) dX7_takeNumber_45 ?_
          refine lv_iadd zx zb dX7_takeNumber_46 ?_
          refine lv_bipush (v := nI 48) zx zb dX7_takeNumber_47 (by decide) ?_
          refine lv_isub zx zb dX7_takeNumber_49 ?_
          refine g_top (y := ((10 * v) + (L.2.2.2.2.1 r9)) - 48) rfl ?_
          refine lv_istore_n (lv' := [(2, .int (((10 * v) + (L.2.2.2.2.1 r9)) - 48)), (0, .ref (t 2)), (1, .int (nI (L.2.2.1)))]) zx zb dX7_takeNumber_50 rfl hl (by decide) rfl (fun ls hl => ?_)
          refine lv_aload_n zx zb dX7_takeNumber_51 rfl (lv_at hl 1 rfl) ?_
          refine lv_dup zx zb dX7_takeNumber_52 rfl ?_
          refine g_get (v := .int (nI r9)) XX hP 0 0 rfl rfl rfl iwX7 5 (by decide) fl_X7_25 rfl dX7_takeNumber_53 ?_
          refine lv_iconst (v := nI 1) zx zb dX7_takeNumber_56 (by decide) ?_
          refine lv_iadd zx zb dX7_takeNumber_57 ?_
          refine g_top (y := nI (r9 + 1)) (nI_add r9 1) ?_
          refine g_put (v := .int (nI (r9 + 1))) (blk' := bSc Γ t (L.1, L.2.1, r9 + 1, L.2.2.2.1, L.2.2.2.2.1, L.2.2.2.2.2.1, L.2.2.2.2.2.2)) (bs' := [bSc Γ t (L.1, L.2.1, r9 + 1, L.2.2.2.1, L.2.2.2.2.1, L.2.2.2.2.2.1, L.2.2.2.2.2.2)]) XX hP hD hS 0 0 rfl rfl rfl iwX7 tyX7_ok nmX7 5 (by decide) fl_X7_25 rfl rfl rfl (Nat.le_of_ble_eq_true rfl) rfl rfl rfl dX7_takeNumber_58 (fun H locs hP hD hS => ?_)
          refine lv_goto (tgt := 7) zx zb dX7_takeNumber_61 (by decide) ?_
          exact ih7 (r9 + 1) (((10 * v) + (L.2.2.2.2.1 r9)) - 48) (by omega) (run_b hrun c_30) (nV_i hr.1 hv) (by omega) _ _ hP hD hS _ (lv_sub hl [1, 2, 0] rfl)
  exact L7 _ L.2.2.1 0 (⟨Nat.le_refl _, by omega⟩) (fun i h1 h2 => absurd h1 (by omega)) (by rw [Nat.sub_self]; rfl) (Nat.lt_succ_self _) _ _ hP hD hS _ (lv_sub hl [2, 1, 0] rfl)

set_option maxHeartbeats 4000000 in
set_option maxRecDepth 100000 in
theorem c_X7_takeEnd (Γ : GG) (l : Launch) (t : Nat → Nat) (L : ScV) (S : PS) (hR : scR L S) (hI : pI L.1 S) (eq : nxt L.2.2.2.2.1 L.1 S.1 = L.2.2.1) (hq : L.2.2.1 < L.1) (hl0 : L.1 ≤ 150) (hL : isL (L.2.2.2.2.1 L.2.2.1) = false) (hF : isF (L.2.2.2.2.1 L.2.2.1) = false) (h59 : L.2.2.2.2.1 L.2.2.1 = 59) : Ci Γ l yX7_takeEnd cX7_takeEnd 1 (some (.boolean)) 0 0 0 0 [.ref (t 2)] [bSc Γ t L] (fun (r : Int32) (u : ScV) => tkP L.2.2.2.2.1 L.1 S r u) (fun (u : ScV) => [bSc Γ t u]) := by
  refine Ci.of (Or.inr rfl) (by decide) (Nat.le_of_ble_eq_true rfl) ?_
  intro pp ee ss mm bb me cd AA QQ XX hnm hA hP hD fin ls hl
  obtain ⟨zx, zb, hml, hown, hts, hK⟩ := id XX
  have hS : va_S AA ss.heap ss.heap [] := va_S.rf
  have hl : lv_has ls 1 [(0, .ref (t 2))] := hl
  have hit : L.2.1 < 25 := by have h8 := hR.1; have h9 := nxt_le (g := L.2.2.2.2.1) hI.1; rw [eq] at h9; rcases hI.2.1 with z | z <;> omega
  have hd9 : S.2.1 < 1000 := by rcases hI.2.1 with z | z; omega; (have := nbN_le (S.2.2.2.1 S.2.2.1); omega)
  refine lv_aload_n zx zb dX7_takeEnd_0 rfl (lv_at hl 0 rfl) ?_
  refine g_get (v := .int L.2.2.2.1) XX hP 0 0 rfl rfl rfl iwX7 6 (by decide) fl_X7_28 rfl dX7_takeEnd_1 ?_
  refine lv_if_eq (tgt := 9) zx zb dX7_takeEnd_4 (by decide) (fun c_4 => ?_) (fun c_4 => ?_)
  · have c_4 : L.2.2.2.1 = (0 : Int32) := c_4
    refine lv_aload_n zx zb dX7_takeEnd_9 rfl (lv_at hl 0 rfl) ?_
    refine lv_dup zx zb dX7_takeEnd_10 rfl ?_
    refine g_get (v := .int (nI (L.2.2.1))) XX hP 0 0 rfl rfl rfl iwX7 5 (by decide) fl_X7_25 rfl dX7_takeEnd_11 ?_
    refine lv_iconst (v := nI 1) zx zb dX7_takeEnd_14 (by decide) ?_
    refine lv_iadd zx zb dX7_takeEnd_15 ?_
    refine g_top (y := nI (L.2.2.1 + 1)) (nI_add L.2.2.1 1) ?_
    refine g_put (v := .int (nI (L.2.2.1 + 1))) (blk' := bSc Γ t (L.1, L.2.1, L.2.2.1 + 1, L.2.2.2.1, L.2.2.2.2.1, L.2.2.2.2.2.1, L.2.2.2.2.2.2)) (bs' := [bSc Γ t (L.1, L.2.1, L.2.2.1 + 1, L.2.2.2.1, L.2.2.2.2.1, L.2.2.2.2.2.1, L.2.2.2.2.2.2)]) XX hP hD hS 0 0 rfl rfl rfl iwX7 tyX7_ok nmX7 5 (by decide) fl_X7_25 rfl rfl rfl (Nat.le_of_ble_eq_true rfl) rfl rfl rfl dX7_takeEnd_16 (fun H locs hP hD hS => ?_)
    refine lv_aload_n zx zb dX7_takeEnd_19 rfl (lv_at hl 0 rfl) ?_
    refine lv_dup zx zb dX7_takeEnd_20 rfl ?_
    refine g_get (v := .int (nI (L.2.1))) XX hP 0 0 rfl rfl rfl iwX7 2 (by decide) fl_X7_21 rfl dX7_takeEnd_21 ?_
    refine lv_iconst (v := nI 1) zx zb dX7_takeEnd_24 (by decide) ?_
    refine lv_iadd zx zb dX7_takeEnd_25 ?_
    refine g_top (y := nI (L.2.1 + 1)) (nI_add L.2.1 1) ?_
    refine g_put (v := .int (nI (L.2.1 + 1))) (blk' := bSc Γ t (L.1, L.2.1 + 1, L.2.2.1 + 1, L.2.2.2.1, L.2.2.2.2.1, L.2.2.2.2.2.1, L.2.2.2.2.2.2)) (bs' := [bSc Γ t (L.1, L.2.1 + 1, L.2.2.1 + 1, L.2.2.2.1, L.2.2.2.2.1, L.2.2.2.2.2.1, L.2.2.2.2.2.2)]) XX hP hD hS 0 0 rfl rfl rfl iwX7 tyX7_ok nmX7 2 (by decide) fl_X7_21 rfl rfl rfl (Nat.le_of_ble_eq_true rfl) rfl rfl rfl dX7_takeEnd_26 (fun H locs hP hD hS => ?_)
    refine lv_aload_n zx zb dX7_takeEnd_29 rfl (lv_at hl 0 rfl) ?_
    refine lv_iconst (v := (-1)) zx zb dX7_takeEnd_30 (by decide) ?_
    refine g_put (v := .int (-1)) (blk' := bSc Γ t (L.1, L.2.1 + 1, L.2.2.1 + 1, (-1), L.2.2.2.2.1, L.2.2.2.2.2.1, L.2.2.2.2.2.2)) (bs' := [bSc Γ t (L.1, L.2.1 + 1, L.2.2.1 + 1, (-1), L.2.2.2.2.1, L.2.2.2.2.2.1, L.2.2.2.2.2.2)]) XX hP hD hS 0 0 rfl rfl rfl iwX7 tyX7_ok nmX7 6 (by decide) fl_X7_28 rfl rfl rfl (Nat.le_of_ble_eq_true rfl) rfl rfl rfl dX7_takeEnd_31 (fun H locs hP hD hS => ?_)
    refine lv_iconst (v := nI 1) zx zb dX7_takeEnd_34 (by decide) ?_
    exact fin _ _ (nI 1) (L.1, L.2.1 + 1, L.2.2.1 + 1, (-1), L.2.2.2.2.1, L.2.2.2.2.2.1, L.2.2.2.2.2.2) 35 _ dX7_takeEnd_35 (fun _ => nar1) (te_ys hR eq hq hL hF h59 ((dI_1 hd9).mp (hR.2.1.symm.trans c_4))) hP hD hS
  · have c_4 : ¬ (L.2.2.2.1 = (0 : Int32)) := c_4
    refine lv_iconst (v := nI 0) zx zb dX7_takeEnd_7 (by decide) ?_
    exact fin _ _ (nI 0) L 8 _ dX7_takeEnd_8 (fun _ => nar0) (te_no eq hq hL hF ⟨rfl, rfl⟩ (Or.inr (fun z => c_4 (hR.2.1.trans ((dI_1 hd9).mpr z))))) hP hD hS

set_option maxHeartbeats 4000000 in
set_option maxRecDepth 100000 in
theorem c_X7_takeToken (Γ : GG) (l : Launch) (t : Nat → Nat) (L : ScV) (K : AK) (S : PS) (a : Int32) (hR : scR L S) (hI : pI L.1 S) (eq : nxt L.2.2.2.2.1 L.1 S.1 = L.2.2.1) (hq : L.2.2.1 < L.1) (hl0 : L.1 ≤ 150) (ha : a = L.2.2.2.2.1 L.2.2.1) : Cia K Γ l yX7_takeToken cX7_takeToken 2 (some (.boolean)) 7 153 0 0 [.ref (t 2), .int a] [bSc Γ t L] (fun (r : Int32) (u : ScV) => tkP L.2.2.2.2.1 L.1 S r u) (fun (u : ScV) => [bSc Γ t u]) := by
  refine Cia.of (ty := .boolean) rfl (by decide) (Nat.le_of_ble_eq_true rfl) ?_
  intro pp ee ss mm bb me cd AA QQ XX hLT hnm hA hP hD fin ls hl
  obtain ⟨zx, zb, hml, hown, hts, hK⟩ := id XX
  have hS : va_S AA ss.heap ss.heap [] := va_S.rf
  have hl : lv_has ls 2 [(0, .ref (t 2)), (1, .int a)] := hl
  refine lv_iload_n zx zb dX7_takeToken_0 rfl (lv_at hl 1 rfl) ?_
  refine callR_Si (As := [.int a]) (rest := []) XX cs_X7_41 (c_X7_isLetter Γ l a ) hP hD hS hA nil_mem nil_D rfl hl.1 rfl ⟨⟨by decide, by decide⟩, by decide, by decide⟩ (Nat.le_of_ble_eq_true rfl) dX7_takeToken_1 (fun r_1 H locs hw hP hS => ?_)
  have hw := hw.symm
  subst hw
  refine lv_if_eq (tgt := 12) zx zb dX7_takeToken_4 (by decide) (fun c_4 => ?_) (fun c_4 => ?_)
  · have c_4 : (isL a) = false := bI_0.mp c_4
    have hL : isL (L.2.2.2.2.1 L.2.2.1) = false := ha ▸ c_4
    refine lv_iload_n zx zb dX7_takeToken_12 rfl (lv_at hl 1 rfl) ?_
    refine callR_Si (As := [.int a]) (rest := []) XX cs_X7_48 (c_X7_isFigure Γ l a ) hP hD hS hA nil_mem nil_D rfl hl.1 rfl ⟨⟨by decide, by decide⟩, by decide, by decide⟩ (Nat.le_of_ble_eq_true rfl) dX7_takeToken_13 (fun r_13 H locs hw hP hS => ?_)
    have hw := hw.symm
    subst hw
    refine lv_if_eq (tgt := 24) zx zb dX7_takeToken_16 (by decide) (fun c_16 => ?_) (fun c_16 => ?_)
    · have c_16 : (isF a) = false := bI_0.mp c_16
      have hF : isF (L.2.2.2.2.1 L.2.2.1) = false := ha ▸ c_16
      refine lv_iload_n zx zb dX7_takeToken_24 rfl (lv_at hl 1 rfl) ?_
      refine lv_bipush (v := nI 59) zx zb dX7_takeToken_25 (by decide) ?_
      refine lv_icmp_ne (tgt := 41) zx zb dX7_takeToken_27 (by decide) (fun c_27 => ?_) (fun c_27 => ?_)
      · have c_27 : ¬ (a = (59 : Int32)) := c_27
        refine lv_iconst (v := nI 0) zx zb dX7_takeToken_41 (by decide) ?_
        exact fin _ _ (nI 0) L 42 _ dX7_takeToken_42 (nar0) (te_no eq hq hL hF ⟨rfl, rfl⟩ (Or.inl (fun z => c_27 (ha.trans z)))) hP hD hS
      · have c_27 : a = (59 : Int32) := c_27
        refine lv_aload_n zx zb dX7_takeToken_30 rfl (lv_at hl 0 rfl) ?_
        refine call_Vi (As := []) (rest := []) XX cv_X7_54 (c_X7_takeEnd Γ l t L S (hR) (hI) (eq) (hq) (hl0) (hL) (hF) (ha ▸ c_27)) hP hD hS hA [0] (by decide) rfl (fun _ => rfl) 0 0 rfl rfl rfl rfl hl.1 rfl ⟨⟨by decide, by decide⟩, by decide, by decide⟩ (Nat.le_of_ble_eq_true rfl) dX7_takeToken_31 (fun r_31 u H locs hw hP hD hS => ?_)
        obtain ⟨u_31, rfl⟩ : ∃ z, z = u := ⟨_, rfl⟩
        have w_31 := hw
        have hP : bP Γ [bSc Γ t u_31] H := hP
        have hD : bD AA [bSc Γ t u_31] := hD
        refine lv_if_eq (tgt := 41) zx zb dX7_takeToken_34 (by decide) (fun c_34 => ?_) (fun c_34 => ?_)
        · have c_34 : r_31 = (0 : Int32) := c_34
          refine lv_iconst (v := nI 0) zx zb dX7_takeToken_41 (by decide) ?_
          exact fin _ _ (nI 0) u_31 42 _ dX7_takeToken_42 (nar0) (tk_f w_31 c_34) hP hD hS
        · have c_34 : ¬ (r_31 = (0 : Int32)) := c_34
          refine lv_iconst (v := nI 1) zx zb dX7_takeToken_37 (by decide) ?_
          refine lv_goto (tgt := 42) zx zb dX7_takeToken_38 (by decide) ?_
          exact fin _ _ (nI 1) u_31 42 _ dX7_takeToken_42 (nar1) (tk_t w_31 c_34) hP hD hS
    · have c_16 : (isF a) = true := bI_ne c_16
      refine lv_aload_n zx zb dX7_takeToken_19 rfl (lv_at hl 0 rfl) ?_
      have hF : isF (L.2.2.2.2.1 L.2.2.1) = true := ha ▸ c_16
      refine call_ViA (As := []) (rest := []) XX hLT cv_X7_51 (c_X7_takeNumber Γ l t L K S (hR) (hI) (eq) (hq) (hl0) (hL) (hF)) hP hD hS hA [0] (by decide) rfl (fun _ => rfl) 0 0 rfl rfl rfl rfl hl.1 rfl ⟨⟨by decide, by decide⟩, by decide, by decide⟩ (Nat.le_of_ble_eq_true rfl) dX7_takeToken_20 (fun r_20 u H locs hw hP hD hS => ?_)
      obtain ⟨u_20, rfl⟩ : ∃ z, z = u := ⟨_, rfl⟩
      have w_20 := hw
      have hP : bP Γ [bSc Γ t u_20] H := hP
      have hD : bD AA [bSc Γ t u_20] := hD
      exact fin _ _ r_20 u_20 23 _ dX7_takeToken_23 (tk_nar w_20) (w_20) hP hD hS
  · have c_4 : (isL a) = true := bI_ne c_4
    refine lv_aload_n zx zb dX7_takeToken_7 rfl (lv_at hl 0 rfl) ?_
    have hL : isL (L.2.2.2.2.1 L.2.2.1) = true := ha ▸ c_4
    refine call_ViA (As := []) (rest := []) XX hLT cv_X7_44 (c_X7_takeWord Γ l t L K S (hR) (hI) (eq) (hq) (hl0) (hL)) hP hD hS hA [0] (by decide) rfl (fun _ => rfl) 0 0 rfl rfl rfl rfl hl.1 rfl ⟨⟨by decide, by decide⟩, by decide, by decide⟩ (Nat.le_of_ble_eq_true rfl) dX7_takeToken_8 (fun r_8 u H locs hw hP hD hS => ?_)
    obtain ⟨u_8, rfl⟩ : ∃ z, z = u := ⟨_, rfl⟩
    have w_8 := hw
    have hP : bP Γ [bSc Γ t u_8] H := hP
    have hD : bD AA [bSc Γ t u_8] := hD
    exact fin _ _ r_8 u_8 11 _ dX7_takeToken_11 (tk_nar w_8) (w_8) hP hD hS
