theorem cv_X11_155 : CWV RX11 155 RX8 yX8_stepBack cX8_stepBack 1 (some (.boolean)) 0 := ⟨cd_X8_stepBack, im_X8_stepBack, se_X8_X8_stepBack_X8_stepBack, in_X8, ml_X11_155, by decide +kernel⟩
theorem cv_X11_351 : CWV RX11 351 RX9 yX9_cellBits cX9_cellBits 1 (some (.int)) 0 := ⟨cd_X9_cellBits, im_X9_cellBits, se_X9_X9_cellBits_X9_cellBits, in_X9, ml_X11_351, by decide +kernel⟩
set_option maxHeartbeats 4000000 in
set_option maxRecDepth 100000 in
theorem c_X11_undo_0 (Γ : GG) (l : Launch) (t : Nat → Nat) (s : Nat → Nat) (x : Nat → Nat) (V : V3) (c : Nat → Nat) (y : Nat → Nat) (p : Nat → Nat → Nat)  : Ci Γ l yX11_undo cX11_undo 1 (some (.int)) 1 22 0 0 [.ref (t 0)] [bTT Γ t s x V, bSt Γ s c y p 0] (fun (r : Int32) (u : V3) => r = (-3) ∧ u = ttRef V (-3)) (fun (u : V3) => [bTT Γ t s x u, bSt Γ s c y p 0]) := by
  refine Ci.of (Or.inl rfl) (by decide) (Nat.le_of_ble_eq_true rfl) ?_
  intro pp ee ss mm bb me cd AA QQ XX hnm hA hP hD fin ls hl
  obtain ⟨zx, zb, hml, hown, hts, hK⟩ := id XX
  have hS : va_S AA ss.heap ss.heap [] := va_S.rf
  have hl : lv_has ls 1 [(0, .ref (t 0))] := hl
  refine lv_aload_n zx zb dX11_undo_0 rfl (lv_at hl 0 rfl) ?_
  refine g_get (v := .ref (s 0)) XX hP 0 0 rfl rfl rfl iwX11 0 (by decide) fl_X11_30 rfl dX11_undo_1 ?_
  refine call_Vi (As := []) (rest := []) XX cv_X11_155 (c_X8_stepBack_0 Γ l s c y p ) hP hD hS hA [1] (by decide) rfl (fun _ => rfl) 1 0 rfl rfl rfl rfl hl.1 rfl ⟨⟨by decide, by decide⟩, by decide, by decide⟩ (Nat.le_of_ble_eq_true rfl) dX11_undo_4 (fun r_4 u H locs hw hP hD hS => ?_)
  have hw := hw.symm
  subst hw
  have hP : bP Γ [bTT Γ t s x V, bSt Γ s c y p 0] H := hP
  have hD : bD AA [bTT Γ t s x V, bSt Γ s c y p 0] := hD
  refine lv_if_eq (tgt := 14) zx zb dX11_undo_7 (by decide) (fun c_7 => ?_) (fun c_7 => ?_)
  · have c_7 : false = false := bI_0.mp c_7
    refine lv_aload_n zx zb dX11_undo_14 rfl (lv_at hl 0 rfl) ?_
    refine lv_bipush (v := (-3)) zx zb dX11_undo_15 (by decide) ?_
    refine lv_bipush (v := (-3)) zx zb dX11_undo_17 (by decide) ?_
    refine call_Vi (As := [.int (-3), .int (-3)]) (rest := []) XX cv_X11_79 (c_X11_refused Γ l t s x V (-3) (-3) ) hP hD hS hA [0] (by decide) rfl (fun _ => rfl) 0 0 rfl rfl rfl rfl hl.1 rfl ⟨⟨by decide, by decide⟩, by decide, by decide⟩ (Nat.le_of_ble_eq_true rfl) dX11_undo_19 (fun r_19 u H locs hw hP hD hS => ?_)
    obtain ⟨hw1, hw2⟩ := hw
    have hw1 := hw1.symm
    have hw2 := hw2.symm
    subst hw1
    subst hw2
    have hP : bP Γ [bTT Γ t s x (ttRef V (-3)), bSt Γ s c y p 0] H := hP
    have hD : bD AA [bTT Γ t s x (ttRef V (-3)), bSt Γ s c y p 0] := hD
    exact fin _ _ (-3) (ttRef V (-3)) 22 _ dX11_undo_22 (fun h => by cases h) ⟨(rfl), (rfl)⟩ hP hD hS
  · have c_7 : false = true := bI_ne c_7
    exact absurd c_7 (by decide)

set_option maxHeartbeats 4000000 in
set_option maxRecDepth 100000 in
theorem c_X11_undo_s (Γ : GG) (l : Launch) (t : Nat → Nat) (s : Nat → Nat) (x : Nat → Nat) (V : V3) (c : Nat → Nat) (y : Nat → Nat) (p : Nat → Nat → Nat) (pc : Nat) (Y : YrV) (P : Nat → YrV) (hpc : pc < 6) : Ci Γ l yX11_undo cX11_undo 1 (some (.int)) 3 67 0 0 [.ref (t 0)] [bTT Γ t s x V, bSt Γ s c y p (pc + 1), bYr Γ y Y, bYr Γ (p 0) (P 0), bYr Γ (p 1) (P 1), bYr Γ (p 2) (P 2), bYr Γ (p 3) (P 3), bYr Γ (p 4) (P 4), bYr Γ (p 5) (P 5)] (fun (r : Int32) (u : YrV) => r = nI 1 ∧ u = P pc) (fun (u : YrV) => [bTT Γ t s x V, bSt Γ s c y p pc, bYr Γ y u, bYr Γ (p 0) (P 0), bYr Γ (p 1) (P 1), bYr Γ (p 2) (P 2), bYr Γ (p 3) (P 3), bYr Γ (p 4) (P 4), bYr Γ (p 5) (P 5)]) := by
  refine Ci.of (Or.inl rfl) (by decide) (Nat.le_of_ble_eq_true rfl) ?_
  intro pp ee ss mm bb me cd AA QQ XX hnm hA hP hD fin ls hl
  obtain ⟨zx, zb, hml, hown, hts, hK⟩ := id XX
  have hS : va_S AA ss.heap ss.heap [] := va_S.rf
  have hl : lv_has ls 1 [(0, .ref (t 0))] := hl
  refine lv_aload_n zx zb dX11_undo_0 rfl (lv_at hl 0 rfl) ?_
  refine g_get (v := .ref (s 0)) XX hP 0 0 rfl rfl rfl iwX11 0 (by decide) fl_X11_30 rfl dX11_undo_1 ?_
  refine call_Vi (As := []) (rest := []) XX cv_X11_155 (c_X8_stepBack_s Γ l s c y p pc Y P (hpc)) hP hD hS hA [1, 2, 3, 4, 5, 6, 7, 8] (by decide) rfl (fun _ => rfl) 1 0 rfl rfl rfl rfl hl.1 rfl ⟨⟨by decide, by decide⟩, by decide, by decide⟩ (Nat.le_of_ble_eq_true rfl) dX11_undo_4 (fun r_4 u H locs hw hP hD hS => ?_)
  obtain ⟨hw1, hw2⟩ := hw
  have hw1 := hw1.symm
  have hw2 := hw2.symm
  subst hw1
  subst hw2
  have hP : bP Γ [bTT Γ t s x V, bSt Γ s c y p pc, bYr Γ y (P pc), bYr Γ (p 0) (P 0), bYr Γ (p 1) (P 1), bYr Γ (p 2) (P 2), bYr Γ (p 3) (P 3), bYr Γ (p 4) (P 4), bYr Γ (p 5) (P 5)] H := hP
  have hD : bD AA [bTT Γ t s x V, bSt Γ s c y p pc, bYr Γ y (P pc), bYr Γ (p 0) (P 0), bYr Γ (p 1) (P 1), bYr Γ (p 2) (P 2), bYr Γ (p 3) (P 3), bYr Γ (p 4) (P 4), bYr Γ (p 5) (P 5)] := hD
  refine lv_if_eq (tgt := 14) zx zb dX11_undo_7 (by decide) (fun c_7 => ?_) (fun c_7 => ?_)
  · have c_7 : true = false := bI_0.mp c_7
    exact absurd c_7 (by decide)
  · clear c_7
    refine lv_iconst (v := nI 1) zx zb dX11_undo_10 (by decide) ?_
    refine lv_goto (tgt := 22) zx zb dX11_undo_11 (by decide) ?_
    exact fin _ _ (nI 1) (P pc) 22 _ dX11_undo_22 (fun h => by cases h) ⟨(rfl), (rfl)⟩ hP hD hS

set_option maxHeartbeats 4000000 in
set_option maxRecDepth 100000 in
theorem c_X11_clash (Γ : GG) (l : Launch) (t : Nat → Nat) (s : Nat → Nat) (x : Nat → Nat) (V : V3) (c : Nat → Nat) (k : Nat → Nat) (y : Nat → Nat) (p : Nat → Nat → Nat) (pc : Nat) (C : CoV) (tr : Nat → TrV) (i : Nat) (j : Nat) (hi : i < 6) (hj : j < 6) : Ci Γ l yX11_clash cX11_clash 5 (some (.boolean)) 1 21 0 0 [.ref (t 0), .int (nI i), .int (nI j)] [bTT Γ t s x V, bSt Γ s c y p pc, bCo Γ c k C, bTs Γ c k tr] (fun (r : Int32) (u : Unit) => r = bI (clP tr i j)) (fun (u : Unit) => [bTT Γ t s x V, bSt Γ s c y p pc, bCo Γ c k C, bTs Γ c k tr]) := by
  refine Ci.of (Or.inr rfl) (by decide) (Nat.le_of_ble_eq_true rfl) ?_
  intro pp ee ss mm bb me cd AA QQ XX hnm hA hP hD fin ls hl
  obtain ⟨zx, zb, hml, hown, hts, hK⟩ := id XX
  have hS : va_S AA ss.heap ss.heap [] := va_S.rf
  have hl : lv_has ls 5 [(0, .ref (t 0)), (1, .int (nI i)), (2, .int (nI j))] := hl
  refine lv_aload_n zx zb dX11_clash_0 rfl (lv_at hl 0 rfl) ?_
  refine g_get (v := .ref (s 0)) XX hP 0 0 rfl rfl rfl iwX11 0 (by decide) fl_X11_30 rfl dX11_clash_1 ?_
  refine g_get (v := .ref (c 0)) XX hP 1 0 rfl rfl rfl iwX8 0 (by decide) fl_X11_100 rfl dX11_clash_4 ?_
  refine g_get (v := .ref (c 5)) XX hP 2 0 rfl rfl rfl iwX2 7 (by decide) fl_X11_104 rfl dX11_clash_7 ?_
  refine lv_iload_n zx zb dX11_clash_10 rfl (lv_at hl 1 rfl) ?_
  refine g_aald (i := i) (v := c (6 + i)) XX hP 2 5 4 rfl rfl rfl (by omega) (by decide) rfl dX11_clash_11 ?_
  refine lv_astore_n (lv' := [(3, .ref (c (6 + i))), (0, .ref (t 0)), (1, .int (nI i)), (2, .int (nI j))]) zx zb dX11_clash_12 rfl hl (by decide) rfl (fun ls hl => ?_)
  refine lv_aload_n zx zb dX11_clash_13 rfl (lv_at hl 1 rfl) ?_
  refine g_get (v := .ref (s 0)) XX hP 0 0 rfl rfl rfl iwX11 0 (by decide) fl_X11_30 rfl dX11_clash_14 ?_
  refine g_get (v := .ref (c 0)) XX hP 1 0 rfl rfl rfl iwX8 0 (by decide) fl_X11_100 rfl dX11_clash_17 ?_
  refine g_get (v := .ref (c 5)) XX hP 2 0 rfl rfl rfl iwX2 7 (by decide) fl_X11_104 rfl dX11_clash_20 ?_
  refine lv_iload_n zx zb dX11_clash_23 rfl (lv_at hl 3 rfl) ?_
  refine g_aald (i := j) (v := c (6 + j)) XX hP 2 5 4 rfl rfl rfl (by omega) (by decide) rfl dX11_clash_24 ?_
  refine lv_astore (lv' := [(4, .ref (c (6 + j))), (3, .ref (c (6 + i))), (0, .ref (t 0)), (1, .int (nI i)), (2, .int (nI j))]) zx zb dX11_clash_25 hl (by decide) rfl (fun ls hl => ?_)
  refine lv_aload_n zx zb dX11_clash_27 rfl (lv_at hl 1 rfl) ?_
  refine callR_Vi (As := []) (rest := []) XX cv_X11_351 (c_X9_cellBits Γ l (c (6 + i)) k (tr i) ) hP hD hS hA (one_mem (bs := [bTT Γ t s x V, bSt Γ s c y p pc, bCo Γ c k C, bTs Γ c k tr]) (k := 3) (j := i) rfl (bTs_at Γ c k tr (hi))) (one_D _) 3 i rfl (bTs_at Γ c k tr (hi)) rfl rfl hl.1 rfl ⟨⟨by decide, by decide⟩, by decide, by decide⟩ (Nat.le_of_ble_eq_true rfl) dX11_clash_28 (fun r_28 H locs hw hP hS => ?_)
  have hw := hw.symm
  subst hw
  refine lv_aload zx zb dX11_clash_31 (lv_at hl 0 rfl) ?_
  refine callR_Vi (As := []) (rest := [.int (trBits (tr i))]) XX cv_X11_351 (c_X9_cellBits Γ l (c (6 + j)) k (tr j) ) hP hD hS hA (one_mem (bs := [bTT Γ t s x V, bSt Γ s c y p pc, bCo Γ c k C, bTs Γ c k tr]) (k := 3) (j := j) rfl (bTs_at Γ c k tr (hj))) (one_D _) 3 j rfl (bTs_at Γ c k tr (hj)) rfl rfl hl.1 rfl ⟨⟨by decide, by decide⟩, by decide, by decide⟩ (Nat.le_of_ble_eq_true rfl) dX11_clash_33 (fun r_33 H locs hw hP hS => ?_)
  have hw := hw.symm
  subst hw
  refine lv_iand zx zb dX11_clash_36 ?_
  refine lv_if_eq (tgt := 71) zx zb dX11_clash_37 (by decide) (fun c_37 => ?_) (fun c_37 => ?_)
  · have c_37 : ((trBits (tr i)) &&& (trBits (tr j))) = (0 : Int32) := c_37
    refine lv_iconst (v := nI 0) zx zb dX11_clash_71 (by decide) ?_
    exact fin _ _ (nI 0) () 72 _ dX11_clash_72 (fun _ => nar0) (by first | exact retT (by simp only [clP, Bool.and_eq_true, decide_eq_true_eq, Bool.and_eq_false_iff, decide_eq_false_iff_not]; first | exact ⟨c_37, Int32.not_le.mp c_64⟩ | exact Or.inl (fun h => h c_37) | exact Or.inr (Int32.not_lt.mpr c_64)) | exact retF (by simp only [clP, Bool.and_eq_true, decide_eq_true_eq, Bool.and_eq_false_iff, decide_eq_false_iff_not]; first | exact ⟨c_37, Int32.not_le.mp c_64⟩ | exact Or.inl (fun h => h c_37) | exact Or.inr (Int32.not_lt.mpr c_64))) hP hD hS
  · have c_37 : ¬ (((trBits (tr i)) &&& (trBits (tr j))) = (0 : Int32)) := c_37
    refine lv_aload_n zx zb dX11_clash_40 rfl (lv_at hl 1 rfl) ?_
    refine g_get (v := .int ((tr i).2.2.2.2.1)) XX hP 3 i rfl (bTs_at Γ c k tr (hi)) rfl iwX9 4 (by decide) fl_X11_354 rfl dX11_clash_41 ?_
    refine lv_aload zx zb dX11_clash_44 (lv_at hl 0 rfl) ?_
    refine g_get (v := .int ((tr j).2.2.2.2.1)) XX hP 3 j rfl (bTs_at Γ c k tr (hj)) rfl iwX9 4 (by decide) fl_X11_354 rfl dX11_clash_46 ?_
    refine va_mmax (rest := []) zx zb (hml.trans hl.1.symm) hown (hts _ ml_X11_357) (hts _ st_J9_max_7cf53) (hts _ in_J9) (hts _ cd_J9_max_7cf53) (Nat.le_of_ble_eq_true rfl) (Nat.le_of_ble_eq_true rfl) (Nat.le_of_ble_eq_true rfl) (Nat.le_of_ble_eq_true rfl) dX11_clash_49 ?_
    refine g_top (y := imax ((tr i).2.2.2.2.1) ((tr j).2.2.2.2.1)) rfl ?_
    refine lv_aload_n zx zb dX11_clash_52 rfl (lv_at hl 1 rfl) ?_
    refine g_get (v := .int ((tr i).2.2.2.2.2.1)) XX hP 3 i rfl (bTs_at Γ c k tr (hi)) rfl iwX9 5 (by decide) fl_X11_118 rfl dX11_clash_53 ?_
    refine lv_aload zx zb dX11_clash_56 (lv_at hl 0 rfl) ?_
    refine g_get (v := .int ((tr j).2.2.2.2.2.1)) XX hP 3 j rfl (bTs_at Γ c k tr (hj)) rfl iwX9 5 (by decide) fl_X11_118 rfl dX11_clash_58 ?_
    refine va_mmin (rest := [.int (imax ((tr i).2.2.2.2.1) ((tr j).2.2.2.2.1))]) zx zb (hml.trans hl.1.symm) hown (hts _ ml_X11_362) (hts _ st_J9_min_7cf53) (hts _ in_J9) (hts _ cd_J9_min_7cf53) (Nat.le_of_ble_eq_true rfl) (Nat.le_of_ble_eq_true rfl) (Nat.le_of_ble_eq_true rfl) (Nat.le_of_ble_eq_true rfl) dX11_clash_61 ?_
    refine g_top (y := imin ((tr i).2.2.2.2.2.1) ((tr j).2.2.2.2.2.1)) rfl ?_
    refine lv_icmp_ge (tgt := 71) zx zb dX11_clash_64 (by decide) (fun c_64 => ?_) (fun c_64 => ?_)
    · have c_64 : (imin ((tr i).2.2.2.2.2.1) ((tr j).2.2.2.2.2.1)) ≤ (imax ((tr i).2.2.2.2.1) ((tr j).2.2.2.2.1)) := c_64
      refine lv_iconst (v := nI 0) zx zb dX11_clash_71 (by decide) ?_
      exact fin _ _ (nI 0) () 72 _ dX11_clash_72 (fun _ => nar0) (by first | exact retT (by simp only [clP, Bool.and_eq_true, decide_eq_true_eq, Bool.and_eq_false_iff, decide_eq_false_iff_not]; first | exact ⟨c_37, Int32.not_le.mp c_64⟩ | exact Or.inl (fun h => h c_37) | exact Or.inr (Int32.not_lt.mpr c_64)) | exact retF (by simp only [clP, Bool.and_eq_true, decide_eq_true_eq, Bool.and_eq_false_iff, decide_eq_false_iff_not]; first | exact ⟨c_37, Int32.not_le.mp c_64⟩ | exact Or.inl (fun h => h c_37) | exact Or.inr (Int32.not_lt.mpr c_64))) hP hD hS
    · have c_64 : ¬ ((imin ((tr i).2.2.2.2.2.1) ((tr j).2.2.2.2.2.1)) ≤ (imax ((tr i).2.2.2.2.1) ((tr j).2.2.2.2.1))) := c_64
      refine lv_iconst (v := nI 1) zx zb dX11_clash_67 (by decide) ?_
      refine lv_goto (tgt := 72) zx zb dX11_clash_68 (by decide) ?_
      exact fin _ _ (nI 1) () 72 _ dX11_clash_72 (fun _ => nar1) (by first | exact retT (by simp only [clP, Bool.and_eq_true, decide_eq_true_eq, Bool.and_eq_false_iff, decide_eq_false_iff_not]; first | exact ⟨c_37, Int32.not_le.mp c_64⟩ | exact Or.inl (fun h => h c_37) | exact Or.inr (Int32.not_lt.mpr c_64)) | exact retF (by simp only [clP, Bool.and_eq_true, decide_eq_true_eq, Bool.and_eq_false_iff, decide_eq_false_iff_not]; first | exact ⟨c_37, Int32.not_le.mp c_64⟩ | exact Or.inl (fun h => h c_37) | exact Or.inr (Int32.not_lt.mpr c_64))) hP hD hS

set_option maxHeartbeats 4000000 in
set_option maxRecDepth 100000 in
theorem c_X11_tillBesideLesser (Γ : GG) (l : Launch) (t : Nat → Nat) (s : Nat → Nat) (x : Nat → Nat) (V : V3) (c : Nat → Nat) (k : Nat → Nat) (y : Nat → Nat) (p : Nat → Nat → Nat) (pc : Nat) (C : CoV) (tr : Nat → TrV) (f : Nat → Int32) (i : Nat) (hi : i < 6) : Ci Γ l yX11_tillBesideLesser cX11_tillBesideLesser 8 (some (.int)) 1 21 0 0 [.ref (t 0), .int (nI i)] [bTT Γ t s x V, bSt Γ s c y p pc, bCo Γ c k C, bTs Γ c k tr, bA Γ (t 3) 6 f] (fun (r : Int32) (u : Unit) => r = tillB tr f i i) (fun (u : Unit) => [bTT Γ t s x V, bSt Γ s c y p pc, bCo Γ c k C, bTs Γ c k tr, bA Γ (t 3) 6 f]) := by
  refine Ci.of (Or.inl rfl) (by decide) (Nat.le_of_ble_eq_true rfl) ?_
  intro pp ee ss mm bb me cd AA QQ XX hnm hA hP hD fin ls hl
  obtain ⟨zx, zb, hml, hown, hts, hK⟩ := id XX
  have hS : va_S AA ss.heap ss.heap [] := va_S.rf
  have hl : lv_has ls 8 [(0, .ref (t 0)), (1, .int (nI i))] := hl
  refine lv_aload_n zx zb dX11_tillBesideLesser_0 rfl (lv_at hl 0 rfl) ?_
  refine g_get (v := .ref (s 0)) XX hP 0 0 rfl rfl rfl iwX11 0 (by decide) fl_X11_30 rfl dX11_tillBesideLesser_1 ?_
  refine g_get (v := .ref (c 0)) XX hP 1 0 rfl rfl rfl iwX8 0 (by decide) fl_X11_100 rfl dX11_tillBesideLesser_4 ?_
  refine g_get (v := .ref (c 5)) XX hP 2 0 rfl rfl rfl iwX2 7 (by decide) fl_X11_104 rfl dX11_tillBesideLesser_7 ?_
  refine lv_iload_n zx zb dX11_tillBesideLesser_10 rfl (lv_at hl 1 rfl) ?_
  refine g_aald (i := i) (v := c (6 + i)) XX hP 2 5 4 rfl rfl rfl (by omega) (by decide) rfl dX11_tillBesideLesser_11 ?_
  refine lv_astore_n (lv' := [(2, .ref (c (6 + i))), (0, .ref (t 0)), (1, .int (nI i))]) zx zb dX11_tillBesideLesser_12 rfl hl (by decide) rfl (fun ls hl => ?_)
  refine lv_aload_n zx zb dX11_tillBesideLesser_13 rfl (lv_at hl 0 rfl) ?_
  refine g_get (v := .int ((tr i).2.2.2.2.2.1)) XX hP 3 i rfl (bTs_at Γ c k tr (hi)) rfl iwX9 5 (by decide) fl_X11_118 rfl dX11_tillBesideLesser_14 ?_
  refine lv_istore_n (lv' := [(3, .int ((tr i).2.2.2.2.2.1)), (2, .ref (c (6 + i))), (0, .ref (t 0)), (1, .int (nI i))]) zx zb dX11_tillBesideLesser_17 rfl hl (by decide) rfl (fun ls hl => ?_)
  refine lv_iconst (v := nI 0) zx zb dX11_tillBesideLesser_18 (by decide) ?_
  refine lv_istore (lv' := [(4, .int (nI 0)), (3, .int ((tr i).2.2.2.2.2.1)), (2, .ref (c (6 + i))), (0, .ref (t 0)), (1, .int (nI i))]) zx zb dX11_tillBesideLesser_19 hl (by decide) rfl (fun ls hl => ?_)
  have L21 : ∀ (nn : Nat) (j : Nat) (a : Int32), (j ≤ i) → (a = tillB tr f i j) → i - j < nn → ∀ (H : Heap) (locs : List Loc), bP Γ [bTT Γ t s x V, bSt Γ s c y p pc, bCo Γ c k C, bTs Γ c k tr, bA Γ (t 3) 6 f] H → bD AA [bTT Γ t s x V, bSt Γ s c y p pc, bCo Γ c k C, bTs Γ c k tr, bA Γ (t 3) 6 f] → va_S AA ss.heap H locs → ∀ (ls : Array Slot), lv_has ls 8 [(0, .ref (t 0)), (1, .int (nI i)), (2, .ref (c (6 + i))), (3, .int a), (4, .int (nI j))] → W pp l ee { frames := 1, cells := 0, slots := 0, locals := 21 } ss mm [.ref (t 0), .int (nI i)].toArray bb me cd H locs 0 0 QQ (F0 mm 21 ls []) := by
    intro nn
    induction nn with
    | zero => intro j a hj ha hm; exact absurd hm (Nat.not_lt_zero _)
    | succ nn ih21 =>
      intro j a hj ha hm21 H locs hP hD hS ls hl
      refine lv_iload zx zb dX11_tillBesideLesser_21 (lv_at hl 4 rfl) ?_
      refine lv_iload_n zx zb dX11_tillBesideLesser_23 rfl (lv_at hl 1 rfl) ?_
      refine lv_icmp_ge (tgt := 106) zx zb dX11_tillBesideLesser_24 (by decide) (fun c_24 => ?_) (fun c_24 => ?_)
      · have c_24 : i ≤ j := (nI_leI (by omega) (by omega)).mp c_24
        refine lv_iload_n zx zb dX11_tillBesideLesser_106 rfl (lv_at hl 3 rfl) ?_
        exact fin _ _ a () 107 _ dX11_tillBesideLesser_107 (fun h => by cases h) (by have e : j = i := (by omega); subst e; exact ha) hP hD hS
      · have c_24 : ¬ (i ≤ j) := fun h => c_24 ((nI_leI (by omega) (by omega)).mpr h)
        refine lv_aload_n zx zb dX11_tillBesideLesser_27 rfl (lv_at hl 0 rfl) ?_
        refine g_get (v := .ref (s 0)) XX hP 0 0 rfl rfl rfl iwX11 0 (by decide) fl_X11_30 rfl dX11_tillBesideLesser_28 ?_
        refine g_get (v := .ref (c 0)) XX hP 1 0 rfl rfl rfl iwX8 0 (by decide) fl_X11_100 rfl dX11_tillBesideLesser_31 ?_
        refine g_get (v := .ref (c 5)) XX hP 2 0 rfl rfl rfl iwX2 7 (by decide) fl_X11_104 rfl dX11_tillBesideLesser_34 ?_
        refine lv_iload zx zb dX11_tillBesideLesser_37 (lv_at hl 4 rfl) ?_
        refine g_aald (i := j) (v := c (6 + j)) XX hP 2 5 4 rfl rfl rfl (by omega) (by decide) rfl dX11_tillBesideLesser_39 ?_
        refine lv_astore (lv' := [(5, .ref (c (6 + j))), (0, .ref (t 0)), (1, .int (nI i)), (2, .ref (c (6 + i))), (3, .int a), (4, .int (nI j))]) zx zb dX11_tillBesideLesser_40 hl (by decide) rfl (fun ls hl => ?_)
        refine lv_aload_n zx zb dX11_tillBesideLesser_42 rfl (lv_at hl 3 rfl) ?_
        refine g_get (v := .int ((tr i).2.2.2.2.1)) XX hP 3 i rfl (bTs_at Γ c k tr (hi)) rfl iwX9 4 (by decide) fl_X11_354 rfl dX11_tillBesideLesser_43 ?_
        refine lv_aload zx zb dX11_tillBesideLesser_46 (lv_at hl 0 rfl) ?_
        refine g_get (v := .int ((tr j).2.2.2.2.1)) XX hP 3 j rfl (bTs_at Γ c k tr (by omega)) rfl iwX9 4 (by decide) fl_X11_354 rfl dX11_tillBesideLesser_48 ?_
        refine va_mmax (rest := []) zx zb (hml.trans hl.1.symm) hown (hts _ ml_X11_357) (hts _ st_J9_max_7cf53) (hts _ in_J9) (hts _ cd_J9_max_7cf53) (Nat.le_of_ble_eq_true rfl) (Nat.le_of_ble_eq_true rfl) (Nat.le_of_ble_eq_true rfl) (Nat.le_of_ble_eq_true rfl) dX11_tillBesideLesser_51 ?_
        refine g_top (y := imax ((tr i).2.2.2.2.1) ((tr j).2.2.2.2.1)) rfl ?_
        refine lv_istore (lv' := [(6, .int (imax ((tr i).2.2.2.2.1) ((tr j).2.2.2.2.1))), (5, .ref (c (6 + j))), (0, .ref (t 0)), (1, .int (nI i)), (2, .ref (c (6 + i))), (3, .int a), (4, .int (nI j))]) zx zb dX11_tillBesideLesser_54 hl (by decide) rfl (fun ls hl => ?_)
        refine lv_aload_n zx zb dX11_tillBesideLesser_56 rfl (lv_at hl 4 rfl) ?_
        refine callR_Vi (As := []) (rest := []) XX cv_X11_351 (c_X9_cellBits Γ l (c (6 + i)) k (tr i) ) hP hD hS hA (one_mem (bs := [bTT Γ t s x V, bSt Γ s c y p pc, bCo Γ c k C, bTs Γ c k tr, bA Γ (t 3) 6 f]) (k := 3) (j := i) rfl (bTs_at Γ c k tr (hi))) (one_D _) 3 i rfl (bTs_at Γ c k tr (hi)) rfl rfl hl.1 rfl ⟨⟨by decide, by decide⟩, by decide, by decide⟩ (Nat.le_of_ble_eq_true rfl) dX11_tillBesideLesser_57 (fun r_57 H locs hw hP hS => ?_)
        have hw := hw.symm
        subst hw
        refine lv_aload zx zb dX11_tillBesideLesser_60 (lv_at hl 1 rfl) ?_
        refine callR_Vi (As := []) (rest := [.int (trBits (tr i))]) XX cv_X11_351 (c_X9_cellBits Γ l (c (6 + j)) k (tr j) ) hP hD hS hA (one_mem (bs := [bTT Γ t s x V, bSt Γ s c y p pc, bCo Γ c k C, bTs Γ c k tr, bA Γ (t 3) 6 f]) (k := 3) (j := j) rfl (bTs_at Γ c k tr (by omega))) (one_D _) 3 j rfl (bTs_at Γ c k tr (by omega)) rfl rfl hl.1 rfl ⟨⟨by decide, by decide⟩, by decide, by decide⟩ (Nat.le_of_ble_eq_true rfl) dX11_tillBesideLesser_62 (fun r_62 H locs hw hP hS => ?_)
        have hw := hw.symm
        subst hw
        refine lv_iand zx zb dX11_tillBesideLesser_65 ?_
        refine lv_if_eq (tgt := 73) zx zb dX11_tillBesideLesser_66 (by decide) (fun c_66 => ?_) (fun c_66 => ?_)
        · have c_66 : ((trBits (tr i)) &&& (trBits (tr j))) = (0 : Int32) := c_66
          refine lv_iconst (v := nI 0) zx zb dX11_tillBesideLesser_73 (by decide) ?_
          refine lv_istore (lv' := [(7, .int (nI 0)), (6, .int (imax ((tr i).2.2.2.2.1) ((tr j).2.2.2.2.1))), (5, .ref (c (6 + j))), (0, .ref (t 0)), (1, .int (nI i)), (2, .ref (c (6 + i))), (3, .int a), (4, .int (nI j))]) zx zb dX11_tillBesideLesser_74 hl (by decide) rfl (fun ls hl => ?_)
          refine lv_iload zx zb dX11_tillBesideLesser_76 (lv_at hl 0 rfl) ?_
          refine lv_if_eq (tgt := 100) zx zb dX11_tillBesideLesser_78 (by decide) (fun c_78 => ?_) (fun c_78 => ?_)
          · clear c_78
            refine lv_iinc (v := nI (j + 1)) (lv' := [(4, .int (nI (j + 1))), (7, .int (nI 0)), (6, .int (imax ((tr i).2.2.2.2.1) ((tr j).2.2.2.2.1))), (5, .ref (c (6 + j))), (0, .ref (t 0)), (1, .int (nI i)), (2, .ref (c (6 + i))), (3, .int a)]) zx zb dX11_tillBesideLesser_100 hl (k := 7) rfl (nI_inc _ 1) (by decide) rfl (fun ls hl => ?_)
            refine lv_goto (tgt := 21) zx zb dX11_tillBesideLesser_103 (by decide) ?_
            exact ih21 (j + 1) a (by omega) (by first | (rw [tillB, ← ha, if_neg (fun h => h.1 c_66)]; done) | (rw [tillB, ← ha, if_neg (fun h => Int32.not_lt.mpr c_94 h.2)]; done) | (rw [tillB, ← ha, if_pos ⟨c_66, Int32.not_le.mp c_94⟩]; done)) (by omega) _ _ hP hD hS _ (lv_sub hl [4, 5, 6, 7, 0] rfl)
          · exact absurd c_78 (by decide)
        · have c_66 : ¬ (((trBits (tr i)) &&& (trBits (tr j))) = (0 : Int32)) := c_66
          refine lv_iconst (v := nI 1) zx zb dX11_tillBesideLesser_69 (by decide) ?_
          refine lv_goto (tgt := 74) zx zb dX11_tillBesideLesser_70 (by decide) ?_
          refine lv_istore (lv' := [(7, .int (nI 1)), (6, .int (imax ((tr i).2.2.2.2.1) ((tr j).2.2.2.2.1))), (5, .ref (c (6 + j))), (0, .ref (t 0)), (1, .int (nI i)), (2, .ref (c (6 + i))), (3, .int a), (4, .int (nI j))]) zx zb dX11_tillBesideLesser_74 hl (by decide) rfl (fun ls hl => ?_)
          refine lv_iload zx zb dX11_tillBesideLesser_76 (lv_at hl 0 rfl) ?_
          refine lv_if_eq (tgt := 100) zx zb dX11_tillBesideLesser_78 (by decide) (fun c_78 => ?_) (fun c_78 => ?_)
          · exact absurd c_78 (by decide)
          · clear c_78
            refine lv_iload zx zb dX11_tillBesideLesser_81 (lv_at hl 1 rfl) ?_
            refine lv_iload_n zx zb dX11_tillBesideLesser_83 rfl (lv_at hl 6 rfl) ?_
            refine lv_aload_n zx zb dX11_tillBesideLesser_84 rfl (lv_at hl 3 rfl) ?_
            refine g_get (v := .ref (t 3)) XX hP 0 0 rfl rfl rfl iwX11 4 (by decide) fl_X11_50 rfl dX11_tillBesideLesser_85 ?_
            refine lv_iload zx zb dX11_tillBesideLesser_88 (lv_at hl 7 rfl) ?_
            refine g_ialdN (i := j) XX hP 4 0 rfl rfl (by omega) (by decide) dX11_tillBesideLesser_90 ?_
            refine va_mmin (rest := [.int (imax ((tr i).2.2.2.2.1) ((tr j).2.2.2.2.1))]) zx zb (hml.trans hl.1.symm) hown (hts _ ml_X11_362) (hts _ st_J9_min_7cf53) (hts _ in_J9) (hts _ cd_J9_min_7cf53) (Nat.le_of_ble_eq_true rfl) (Nat.le_of_ble_eq_true rfl) (Nat.le_of_ble_eq_true rfl) (Nat.le_of_ble_eq_true rfl) dX11_tillBesideLesser_91 ?_
            refine g_top (y := imin a (f j)) rfl ?_
            refine lv_icmp_ge (tgt := 100) zx zb dX11_tillBesideLesser_94 (by decide) (fun c_94 => ?_) (fun c_94 => ?_)
            · have c_94 : (imin a (f j)) ≤ (imax ((tr i).2.2.2.2.1) ((tr j).2.2.2.2.1)) := c_94
              refine lv_iinc (v := nI (j + 1)) (lv' := [(4, .int (nI (j + 1))), (7, .int (nI 1)), (6, .int (imax ((tr i).2.2.2.2.1) ((tr j).2.2.2.2.1))), (5, .ref (c (6 + j))), (0, .ref (t 0)), (1, .int (nI i)), (2, .ref (c (6 + i))), (3, .int a)]) zx zb dX11_tillBesideLesser_100 hl (k := 7) rfl (nI_inc _ 1) (by decide) rfl (fun ls hl => ?_)
              refine lv_goto (tgt := 21) zx zb dX11_tillBesideLesser_103 (by decide) ?_
              exact ih21 (j + 1) a (by omega) (by first | (rw [tillB, ← ha, if_neg (fun h => h.1 c_66)]; done) | (rw [tillB, ← ha, if_neg (fun h => Int32.not_lt.mpr c_94 h.2)]; done) | (rw [tillB, ← ha, if_pos ⟨c_66, Int32.not_le.mp c_94⟩]; done)) (by omega) _ _ hP hD hS _ (lv_sub hl [4, 5, 6, 7, 0] rfl)
            · have c_94 : ¬ ((imin a (f j)) ≤ (imax ((tr i).2.2.2.2.1) ((tr j).2.2.2.2.1))) := c_94
              refine lv_iload zx zb dX11_tillBesideLesser_97 (lv_at hl 1 rfl) ?_
              refine lv_istore_n (lv' := [(3, .int (imax ((tr i).2.2.2.2.1) ((tr j).2.2.2.2.1))), (7, .int (nI 1)), (6, .int (imax ((tr i).2.2.2.2.1) ((tr j).2.2.2.2.1))), (5, .ref (c (6 + j))), (0, .ref (t 0)), (1, .int (nI i)), (2, .ref (c (6 + i))), (4, .int (nI j))]) zx zb dX11_tillBesideLesser_99 rfl hl (by decide) rfl (fun ls hl => ?_)
              refine lv_iinc (v := nI (j + 1)) (lv' := [(4, .int (nI (j + 1))), (3, .int (imax ((tr i).2.2.2.2.1) ((tr j).2.2.2.2.1))), (7, .int (nI 1)), (6, .int (imax ((tr i).2.2.2.2.1) ((tr j).2.2.2.2.1))), (5, .ref (c (6 + j))), (0, .ref (t 0)), (1, .int (nI i)), (2, .ref (c (6 + i)))]) zx zb dX11_tillBesideLesser_100 hl (k := 7) rfl (nI_inc _ 1) (by decide) rfl (fun ls hl => ?_)
              refine lv_goto (tgt := 21) zx zb dX11_tillBesideLesser_103 (by decide) ?_
              exact ih21 (j + 1) (imax ((tr i).2.2.2.2.1) ((tr j).2.2.2.2.1)) (by omega) (by first | (rw [tillB, ← ha, if_neg (fun h => h.1 c_66)]; done) | (rw [tillB, ← ha, if_neg (fun h => Int32.not_lt.mpr c_94 h.2)]; done) | (rw [tillB, ← ha, if_pos ⟨c_66, Int32.not_le.mp c_94⟩]; done)) (by omega) _ _ hP hD hS _ (lv_sub hl [5, 6, 7, 1, 0] rfl)
  exact L21 _ 0 ((tr i).2.2.2.2.2.1) (by omega) (rfl) (Nat.lt_succ_self _) _ _ hP hD hS _ (lv_sub hl [3, 4, 2, 1, 0] rfl)
