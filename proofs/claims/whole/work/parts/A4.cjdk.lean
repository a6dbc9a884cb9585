theorem cs_J0_1059 : CWS RJ0 1059 yJ3_checkIndex_8e157 cJ3_checkIndex_8e157 3 (some (.int)) 3 := ⟨cd_J3_checkIndex_8e157, st_J3_checkIndex_8e157, in_J3, ml_J0_1059, by decide +kernel⟩
theorem cs_J0_495 : CWS RJ0 495 yJ1_charAt_3b067 cJ1_charAt_3b067 2 (some (.char)) 2 := ⟨cd_J1_charAt_3b067, st_J1_charAt_3b067, in_J1, ml_J0_495, by decide +kernel⟩
theorem cs_J1_9 : CWS RJ1 9 yJ0_checkIndex_df160 cJ0_checkIndex_df160 2 none 2 := ⟨cd_J0_checkIndex_df160, st_J0_checkIndex_df160, in_J0, ml_J1_9, by decide +kernel⟩
theorem cv_J0_335 : CWV RJ0 335 RJ0 yJ0_coder_7d493 cJ0_coder_7d493 1 (some (.byte)) 0 := ⟨cd_J0_coder_7d493, im_J0_coder_7d493, se_J0_J0_coder_7d493_J0_coder_7d493, in_J0, ml_J0_335, by decide +kernel⟩
theorem cv_J0_492 : CWV RJ0 492 RJ0 yJ0_isLatin1_aae02 cJ0_isLatin1_aae02 1 (some (.boolean)) 0 := ⟨cd_J0_isLatin1_aae02, im_J0_isLatin1_aae02, se_J0_J0_isLatin1_aae02_J0_isLatin1_aae02, in_J0, ml_J0_492, by decide +kernel⟩
set_option maxHeartbeats 4000000 in
set_option maxRecDepth 100000 in
theorem c_J0_coder_7d493 (Γ : GG) (l : Launch) (K : AK) (i : Nat) (hi : i < 6) : Cia K Γ l yJ0_coder_7d493 cJ0_coder_7d493 1 (some (.byte)) 0 0 0 0 [.ref (K.1 i)] [] (fun (r : Int32) (u : Unit) => r = nI 0) (fun (u : Unit) => []) := by
  refine Cia.of (ty := .byte) rfl (by decide) (Nat.le_of_ble_eq_true rfl) ?_
  intro pp ee ss mm bb me cd AA QQ XX hLT hnm hA hP hD fin ls hl
  obtain ⟨zx, zb, hml, hown, hts, hK⟩ := id XX
  have hS : va_S AA ss.heap ss.heap [] := va_S.rf
  have hl : lv_has ls 1 [(0, .ref (K.1 i))] := hl
  refine va_gets zx zb hLT.2.2.1 hS hown (hts _ fl_J0_38) (fun _ h => h) dJ0_coder_7d493_0 ?_
  refine g_top (y := nI 1) rfl ?_
  refine lv_if_eq (tgt := 13) zx zb dJ0_coder_7d493_3 (by decide) (fun c_3 => ?_) (fun c_3 => ?_)
  · exact absurd c_3 (by decide)
  · clear c_3
    refine lv_aload_n zx zb dJ0_coder_7d493_6 rfl (lv_at hl 0 rfl) ?_
    refine vk_getf zx zb (hLT.1.1 i (hi)).2.1 hS hown (hts _ fl_J0_15) (fun _ h => h) dJ0_coder_7d493_7 ?_
    refine g_top (y := nI 0) rfl ?_
    refine lv_goto (tgt := 14) zx zb dJ0_coder_7d493_10 (by decide) ?_
    exact fin _ _ (nI 0) () 14 _ dJ0_coder_7d493_14 (narB) (rfl) hP hD hS

set_option maxHeartbeats 4000000 in
set_option maxRecDepth 100000 in
theorem c_J0_isLatin1_aae02 (Γ : GG) (l : Launch) (K : AK) (i : Nat) (hi : i < 6) : Cia K Γ l yJ0_isLatin1_aae02 cJ0_isLatin1_aae02 1 (some (.boolean)) 0 0 0 0 [.ref (K.1 i)] [] (fun (r : Int32) (u : Unit) => r = bI true) (fun (u : Unit) => []) := by
  refine Cia.of (ty := .boolean) rfl (by decide) (Nat.le_of_ble_eq_true rfl) ?_
  intro pp ee ss mm bb me cd AA QQ XX hLT hnm hA hP hD fin ls hl
  obtain ⟨zx, zb, hml, hown, hts, hK⟩ := id XX
  have hS : va_S AA ss.heap ss.heap [] := va_S.rf
  have hl : lv_has ls 1 [(0, .ref (K.1 i))] := hl
  refine va_gets zx zb hLT.2.2.1 hS hown (hts _ fl_J0_38) (fun _ h => h) dJ0_isLatin1_aae02_0 ?_
  refine g_top (y := nI 1) rfl ?_
  refine lv_if_eq (tgt := 17) zx zb dJ0_isLatin1_aae02_3 (by decide) (fun c_3 => ?_) (fun c_3 => ?_)
  · exact absurd c_3 (by decide)
  · clear c_3
    refine lv_aload_n zx zb dJ0_isLatin1_aae02_6 rfl (lv_at hl 0 rfl) ?_
    refine vk_getf zx zb (hLT.1.1 i (hi)).2.1 hS hown (hts _ fl_J0_15) (fun _ h => h) dJ0_isLatin1_aae02_7 ?_
    refine g_top (y := nI 0) rfl ?_
    refine lv_if_ne (tgt := 17) zx zb dJ0_isLatin1_aae02_10 (by decide) (fun c_10 => ?_) (fun c_10 => ?_)
    · exact absurd c_10 (by decide)
    · clear c_10
      refine lv_iconst (v := nI 1) zx zb dJ0_isLatin1_aae02_13 (by decide) ?_
      refine lv_goto (tgt := 18) zx zb dJ0_isLatin1_aae02_14 (by decide) ?_
      exact fin _ _ (nI 1) () 18 _ dJ0_isLatin1_aae02_18 (nar1) (rfl) hP hD hS

set_option maxHeartbeats 4000000 in
set_option maxRecDepth 100000 in
theorem c_J0_length_8abf5 (Γ : GG) (l : Launch) (K : AK) (i : Nat) (hi : i < 6) : Cia K Γ l yJ0_length_8abf5 cJ0_length_8abf5 1 (some (.int)) 1 20 0 0 [.ref (K.1 i)] [] (fun (r : Int32) (u : Unit) => r = nI (lenA.getD i 0)) (fun (u : Unit) => []) := by
  refine Cia.of (ty := .int) rfl (by decide) (Nat.le_of_ble_eq_true rfl) ?_
  intro pp ee ss mm bb me cd AA QQ XX hLT hnm hA hP hD fin ls hl
  obtain ⟨zx, zb, hml, hown, hts, hK⟩ := id XX
  have hS : va_S AA ss.heap ss.heap [] := va_S.rf
  have hl : lv_has ls 1 [(0, .ref (K.1 i))] := hl
  refine lv_aload_n zx zb dJ0_length_8abf5_0 rfl (lv_at hl 0 rfl) ?_
  refine vk_getf zx zb (hLT.1.1 i (hi)).2.2.1 hS hown (hts _ fl_J0_9) (fun _ h => h) dJ0_length_8abf5_1 ?_
  refine va_tlen (v := nI (lenA.getD i 0)) zx zb (hLT.1.1 i (hi)).2.2.2 hS rfl dJ0_length_8abf5_4 ?_
  refine lv_aload_n zx zb dJ0_length_8abf5_5 rfl (lv_at hl 0 rfl) ?_
  refine call_ViL (i := i) (As := []) (rest := [.int (nI (lenA.getD i 0))]) XX hLT cv_J0_335 (hi) (c_J0_coder_7d493 Γ l K i (hi)) hP hD hS hA rfl hl.1 rfl ⟨⟨by decide, by decide⟩, by decide, by decide⟩ (Nat.le_of_ble_eq_true rfl) dJ0_length_8abf5_6 (fun r_6 H locs hw hP hS => ?_)
  have hw := hw.symm
  subst hw
  refine lv_ishr zx zb dJ0_length_8abf5_9 ?_
  refine g_top (y := nI (lenA.getD i 0)) (len_sh i hi) ?_
  exact fin _ _ (nI (lenA.getD i 0)) () 10 _ dJ0_length_8abf5_10 (rfl) (rfl) hP hD hS

set_option maxHeartbeats 4000000 in
set_option maxRecDepth 100000 in
theorem c_J3_checkIndex_null (Γ : GG) (l : Launch) (k : Nat) (n : Nat) (hkn : k < n) (hn1 : n < 1000) : Ci Γ l yJ3_checkIndex_8e157 cJ3_checkIndex_8e157 3 (some (.int)) 0 0 0 0 [.int (nI k), .int (nI n), .null] [] (fun (r : Int32) (u : Unit) => r = nI k) (fun (u : Unit) => []) := by
  refine Ci.of (Or.inl rfl) (by decide) (Nat.le_of_ble_eq_true rfl) ?_
  intro pp ee ss mm bb me cd AA QQ XX hnm hA hP hD fin ls hl
  obtain ⟨zx, zb, hml, hown, hts, hK⟩ := id XX
  have hS : va_S AA ss.heap ss.heap [] := va_S.rf
  have hl : lv_has ls 3 [(0, .int (nI k)), (1, .int (nI n)), (2, .null)] := hl
  refine lv_iload_n zx zb dJ3_checkIndex_8e157_0 rfl (lv_at hl 0 rfl) ?_
  refine lv_if_lt (tgt := 9) zx zb dJ3_checkIndex_8e157_1 (by decide) (fun c_1 => ?_) (fun c_1 => ?_)
  · have c_1 : k < 0 := (nI_ltI (a := k) (b := 0) (by omega) (by omega)).mp c_1
    exact absurd c_1 (by omega)
  · clear c_1
    refine lv_iload_n zx zb dJ3_checkIndex_8e157_4 rfl (lv_at hl 0 rfl) ?_
    refine lv_iload_n zx zb dJ3_checkIndex_8e157_5 rfl (lv_at hl 1 rfl) ?_
    refine lv_icmp_lt (tgt := 16) zx zb dJ3_checkIndex_8e157_6 (by decide) (fun c_6 => ?_) (fun c_6 => ?_)
    · have c_6 : k < n := (nI_ltI (a := k) (b := n) (by omega) (by omega)).mp c_6
      refine lv_iload_n zx zb dJ3_checkIndex_8e157_16 rfl (lv_at hl 0 rfl) ?_
      exact fin _ _ (nI k) () 17 _ dJ3_checkIndex_8e157_17 (fun h => by cases h) (rfl) hP hD hS
    · have c_6 : ¬ (k < n) := fun h => c_6 ((nI_ltI (a := k) (b := n) (by omega) (by omega)).mpr h)
      exact absurd hkn c_6

set_option maxHeartbeats 4000000 in
set_option maxRecDepth 100000 in
theorem c_J3_checkIndex_ref (Γ : GG) (l : Launch) (k : Nat) (n : Nat) (t9 : Nat) (hkn : k < n) (hn1 : n < 1000) : Ci Γ l yJ3_checkIndex_8e157 cJ3_checkIndex_8e157 3 (some (.int)) 0 0 0 0 [.int (nI k), .int (nI n), .ref t9] [] (fun (r : Int32) (u : Unit) => r = nI k) (fun (u : Unit) => []) := by
  refine Ci.of (Or.inl rfl) (by decide) (Nat.le_of_ble_eq_true rfl) ?_
  intro pp ee ss mm bb me cd AA QQ XX hnm hA hP hD fin ls hl
  obtain ⟨zx, zb, hml, hown, hts, hK⟩ := id XX
  have hS : va_S AA ss.heap ss.heap [] := va_S.rf
  have hl : lv_has ls 3 [(0, .int (nI k)), (1, .int (nI n)), (2, .ref t9)] := hl
  refine lv_iload_n zx zb dJ3_checkIndex_8e157_0 rfl (lv_at hl 0 rfl) ?_
  refine lv_if_lt (tgt := 9) zx zb dJ3_checkIndex_8e157_1 (by decide) (fun c_1 => ?_) (fun c_1 => ?_)
  · have c_1 : k < 0 := (nI_ltI (a := k) (b := 0) (by omega) (by omega)).mp c_1
    exact absurd c_1 (by omega)
  · clear c_1
    refine lv_iload_n zx zb dJ3_checkIndex_8e157_4 rfl (lv_at hl 0 rfl) ?_
    refine lv_iload_n zx zb dJ3_checkIndex_8e157_5 rfl (lv_at hl 1 rfl) ?_
    refine lv_icmp_lt (tgt := 16) zx zb dJ3_checkIndex_8e157_6 (by decide) (fun c_6 => ?_) (fun c_6 => ?_)
    · have c_6 : k < n := (nI_ltI (a := k) (b := n) (by omega) (by omega)).mp c_6
      refine lv_iload_n zx zb dJ3_checkIndex_8e157_16 rfl (lv_at hl 0 rfl) ?_
      exact fin _ _ (nI k) () 17 _ dJ3_checkIndex_8e157_17 (fun h => by cases h) (rfl) hP hD hS
    · have c_6 : ¬ (k < n) := fun h => c_6 ((nI_ltI (a := k) (b := n) (by omega) (by omega)).mpr h)
      exact absurd hkn c_6

set_option maxHeartbeats 4000000 in
set_option maxRecDepth 100000 in
theorem c_J0_checkIndex_df160 (Γ : GG) (l : Launch) (K : AK) (k : Nat) (n : Nat) (hkn : k < n) (hn1 : n < 1000) : Cva K Γ l yJ0_checkIndex_df160 cJ0_checkIndex_df160 2 none 1 22 0 0 [.int (nI k), .int (nI n)] [] (fun (u : Unit) => True) (fun (u : Unit) => []) := by
  refine Cva.of rfl (by decide) (Nat.le_of_ble_eq_true rfl) ?_
  intro pp ee ss mm bb me cd AA QQ XX hLT hnm hA hP hD fin ls hl
  obtain ⟨zx, zb, hml, hown, hts, hK⟩ := id XX
  have hS : va_S AA ss.heap ss.heap [] := va_S.rf
  have hl : lv_has ls 2 [(0, .int (nI k)), (1, .int (nI n))] := hl
  refine lv_iload_n zx zb dJ0_checkIndex_df160_0 rfl (lv_at hl 0 rfl) ?_
  refine lv_iload_n zx zb dJ0_checkIndex_df160_1 rfl (lv_at hl 1 rfl) ?_
  rcases hLT.2.2.2.2 with hz9 | ⟨t9, hz9⟩
  · refine va_gets zx zb hz9 hS hown (hts _ fl_J0_1053) (fun _ h => h) dJ0_checkIndex_df160_2 ?_
    refine callR_Si (As := [.int (nI k), .int (nI n), .null]) (rest := []) XX cs_J0_1059 (c_J3_checkIndex_null Γ l k n (hkn) (hn1)) hP hD hS hA nil_mem nil_D rfl hl.1 rfl ⟨⟨by decide, by decide⟩, by decide, by decide⟩ (Nat.le_of_ble_eq_true rfl) dJ0_checkIndex_df160_5 (fun r_5 H locs hw hP hS => ?_)
    have hw := hw.symm
    subst hw
    refine lv_pop zx zb dJ0_checkIndex_df160_8 rfl ?_
    exact fin _ _ () 9 _ dJ0_checkIndex_df160_9 trivial hP hD hS
  · refine va_gets zx zb hz9 hS hown (hts _ fl_J0_1053) (fun _ h => h) dJ0_checkIndex_df160_2 ?_
    refine callR_Si (As := [.int (nI k), .int (nI n), .ref t9]) (rest := []) XX cs_J0_1059 (c_J3_checkIndex_ref Γ l k n t9 (hkn) (hn1)) hP hD hS hA nil_mem nil_D rfl hl.1 rfl ⟨⟨by decide, by decide⟩, by decide, by decide⟩ (Nat.le_of_ble_eq_true rfl) dJ0_checkIndex_df160_5 (fun r_5 H locs hw hP hS => ?_)
    have hw := hw.symm
    subst hw
    refine lv_pop zx zb dJ0_checkIndex_df160_8 rfl ?_
    exact fin _ _ () 9 _ dJ0_checkIndex_df160_9 trivial hP hD hS

set_option maxHeartbeats 4000000 in
set_option maxRecDepth 100000 in
theorem c_J1_charAt_3b067 (Γ : GG) (l : Launch) (K : AK) (i : Nat) (k : Nat) (hi : i < 6) (hk : k < lenA.getD i 0) : Cia K Γ l yJ1_charAt_3b067 cJ1_charAt_3b067 2 (some (.char)) 2 43 0 0 [.ref (K.2.1 i), .int (nI k)] [] (fun (r : Int32) (u : Unit) => r = (wdL i).getD k 0) (fun (u : Unit) => []) := by
  refine Cia.of (ty := .char) rfl (by decide) (Nat.le_of_ble_eq_true rfl) ?_
  intro pp ee ss mm bb me cd AA QQ XX hLT hnm hA hP hD fin ls hl
  obtain ⟨zx, zb, hml, hown, hts, hK⟩ := id XX
  have hS : va_S AA ss.heap ss.heap [] := va_S.rf
  have hl : lv_has ls 2 [(0, .ref (K.2.1 i)), (1, .int (nI k))] := hl
  have hl6 := len_6 i hi
  refine lv_iload_n zx zb dJ1_charAt_3b067_0 rfl (lv_at hl 1 rfl) ?_
  refine lv_aload_n zx zb dJ1_charAt_3b067_1 rfl (lv_at hl 0 rfl) ?_
  refine va_tlen (v := nI (lenA.getD i 0)) zx zb (hLT.1.1 i (hi)).2.2.2 hS rfl dJ1_charAt_3b067_2 ?_
  refine call_SvA (As := [.int (nI k), .int (nI (lenA.getD i 0))]) (rest := []) XX hLT cs_J1_9 (c_J0_checkIndex_df160 Γ l K k (lenA.getD i 0) (hk) (by omega)) hP hD hS hA rfl hl.1 rfl ⟨⟨by decide, by decide⟩, by decide, by decide⟩ (Nat.le_of_ble_eq_true rfl) dJ1_charAt_3b067_3 (fun u H locs hw hP hD hS => ?_)
  have hP : bP Γ [] H := hP
  have hD : bD AA [] := hD
  refine lv_aload_n zx zb dJ1_charAt_3b067_6 rfl (lv_at hl 0 rfl) ?_
  refine lv_iload_n zx zb dJ1_charAt_3b067_7 rfl (lv_at hl 1 rfl) ?_
  refine va_tb (v := .int ((bytA.getD i []).getD k 0)) zx zb (hLT.1.1 i (hi)).2.2.2 hS (vp_in_nI (hk) (by omega)) (by rw [nI_clamp (by omega)]) dJ1_charAt_3b067_8 ?_
  refine lv_sipush (v := nI 255) zx zb dJ1_charAt_3b067_9 (by decide) ?_
  refine lv_iand zx zb dJ1_charAt_3b067_12 ?_
  refine g_top (y := ((bytA.getD i []).getD k 0) &&& 255) rfl ?_
  refine lv_i2c (v := ((((bytA.getD i []).getD k 0) &&& 255).toUInt32 % 65536).toInt32) zx zb dJ1_charAt_3b067_13 rfl ?_
  refine g_top (y := (wdL i).getD k 0) (ch_w i hi k (by omega)) ?_
  exact fin _ _ ((wdL i).getD k 0) () 14 _ dJ1_charAt_3b067_14 (ch_n i hi k (by omega)) (rfl) hP hD hS

set_option maxHeartbeats 4000000 in
set_option maxRecDepth 100000 in
theorem c_J0_charAt_5068e (Γ : GG) (l : Launch) (K : AK) (i : Nat) (k : Nat) (hi : i < 6) (hk : k < lenA.getD i 0) : Cia K Γ l yJ0_charAt_5068e cJ0_charAt_5068e 2 (some (.char)) 3 64 0 0 [.ref (K.1 i), .int (nI k)] [] (fun (r : Int32) (u : Unit) => r = (wdL i).getD k 0) (fun (u : Unit) => []) := by
  refine Cia.of (ty := .char) rfl (by decide) (Nat.le_of_ble_eq_true rfl) ?_
  intro pp ee ss mm bb me cd AA QQ XX hLT hnm hA hP hD fin ls hl
  obtain ⟨zx, zb, hml, hown, hts, hK⟩ := id XX
  have hS : va_S AA ss.heap ss.heap [] := va_S.rf
  have hl : lv_has ls 2 [(0, .ref (K.1 i)), (1, .int (nI k))] := hl
  have hl6 := len_6 i hi
  refine lv_aload_n zx zb dJ0_charAt_5068e_0 rfl (lv_at hl 0 rfl) ?_
  refine call_ViL (i := i) (As := []) (rest := []) XX hLT cv_J0_492 (hi) (c_J0_isLatin1_aae02 Γ l K i (hi)) hP hD hS hA rfl hl.1 rfl ⟨⟨by decide, by decide⟩, by decide, by decide⟩ (Nat.le_of_ble_eq_true rfl) dJ0_charAt_5068e_1 (fun r_1 H locs hw hP hS => ?_)
  have hw := hw.symm
  subst hw
  refine lv_if_eq (tgt := 16) zx zb dJ0_charAt_5068e_4 (by decide) (fun c_4 => ?_) (fun c_4 => ?_)
  · have c_4 : true = false := bI_0.mp c_4
    exact absurd c_4 (by decide)
  · clear c_4
    refine lv_aload_n zx zb dJ0_charAt_5068e_7 rfl (lv_at hl 0 rfl) ?_
    refine vk_getf zx zb (hLT.1.1 i (hi)).2.2.1 hS hown (hts _ fl_J0_9) (fun _ h => h) dJ0_charAt_5068e_8 ?_
    refine lv_iload_n zx zb dJ0_charAt_5068e_11 rfl (lv_at hl 1 rfl) ?_
    refine call_SiA (As := [.ref (K.2.1 i), .int (nI k)]) (rest := []) XX hLT cs_J0_495 (c_J1_charAt_3b067 Γ l K i k (hi) (hk)) hP hD hS hA rfl hl.1 rfl ⟨⟨by decide, by decide⟩, by decide, by decide⟩ (Nat.le_of_ble_eq_true rfl) dJ0_charAt_5068e_12 (fun r_12 H locs hw hP hS => ?_)
    have hw := hw.symm
    subst hw
    exact fin _ _ ((wdL i).getD k 0) () 15 _ dJ0_charAt_5068e_15 (ch_n i hi k (by omega)) (rfl) hP hD hS
