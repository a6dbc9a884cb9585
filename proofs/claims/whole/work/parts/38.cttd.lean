theorem cv_X11_145 : CWV RX11 145 RX8 yX8_keepPast cX8_keepPast 1 none 0 := ⟨cd_X8_keepPast, im_X8_keepPast, se_X8_X8_keepPast_X8_keepPast, in_X8, ml_X11_145, by decide +kernel⟩
theorem cv_X11_233 : CWV RX11 233 RX11 yX11_staysDry cX11_staysDry 6 (some (.boolean)) 4 := ⟨cd_X11_staysDry, im_X11_staysDry, se_X11_X11_staysDry_X11_staysDry, in_X11, ml_X11_233, by decide +kernel⟩
theorem cv_X11_236 : CWV RX11 236 RX11 yX11_clash cX11_clash 5 (some (.boolean)) 2 := ⟨cd_X11_clash, im_X11_clash, se_X11_X11_clash_X11_clash, in_X11, ml_X11_236, by decide +kernel⟩
theorem cv_X11_284 : CWV RX11 284 RX2 yX2_springMore cX2_springMore 2 (some (.int)) 1 := ⟨cd_X2_springMore, im_X2_springMore, se_X2_X2_springMore_X2_springMore, in_X2, ml_X11_284, by decide +kernel⟩
theorem cv_X11_316 : CWV RX11 316 RX2 yX2_mixWants cX2_mixWants 4 (some (.long)) 1 := ⟨cd_X2_mixWants, im_X2_mixWants, se_X2_X2_mixWants_X2_mixWants, in_X2, ml_X11_316, by decide +kernel⟩
theorem cv_X11_320 : CWV RX11 320 RX8 yX8_mixCells cX8_mixCells 4 (some (.long)) 1 := ⟨cd_X8_mixCells, im_X8_mixCells, se_X8_X8_mixCells_X8_mixCells, in_X8, ml_X11_320, by decide +kernel⟩
theorem cv_X11_323 : CWV RX11 323 RX8 yX8_mixTreaties cX8_mixTreaties 5 (some (.long)) 1 := ⟨cd_X8_mixTreaties, im_X8_mixTreaties, se_X8_X8_mixTreaties_X8_mixTreaties, in_X8, ml_X11_323, by decide +kernel⟩
theorem cv_X11_326 : CWV RX11 326 RX2 yX2_mixTides cX2_mixTides 4 (some (.long)) 1 := ⟨cd_X2_mixTides, im_X2_mixTides, se_X2_X2_mixTides_X2_mixTides, in_X2, ml_X11_326, by decide +kernel⟩
set_option maxHeartbeats 4000000 in
set_option maxRecDepth 100000 in
theorem c_X11_clashes (Γ : GG) (l : Launch) (t : Nat → Nat) (s : Nat → Nat) (x : Nat → Nat) (V : V3) (c : Nat → Nat) (k : Nat → Nat) (y : Nat → Nat) (p : Nat → Nat → Nat) (pc : Nat) (C : CoV) (tr : Nat → TrV) (w : Int32) (htc : C.2.2.2.2.2.2.1 ≤ 6) : Ci Γ l yX11_clashes cX11_clashes 5 (some (.int)) 2 45 0 0 [.ref (t 0), .int w] [bTT Γ t s x V, bSt Γ s c y p pc, bCo Γ c k C, bTs Γ c k tr] (fun (r : Int32) (u : V3) => r = clR tr (coTc C) w ∧ u = stV V (decide (-1 ≤ w))) (fun (u : V3) => [bTT Γ t s x u, bSt Γ s c y p pc, bCo Γ c k C, bTs Γ c k tr]) := by
  refine Ci.of (Or.inl rfl) (by decide) (Nat.le_of_ble_eq_true rfl) ?_
  intro pp ee ss mm bb me cd AA QQ XX hnm hA hP hD fin ls hl
  obtain ⟨zx, zb, hml, hown, hts, hK⟩ := id XX
  have hS : va_S AA ss.heap ss.heap [] := va_S.rf
  have hl : lv_has ls 5 [(0, .ref (t 0)), (1, .int w)] := hl
  refine lv_iload_n zx zb dX11_clashes_0 rfl (lv_at hl 1 rfl) ?_
  refine lv_iconst (v := (-1)) zx zb dX11_clashes_1 (by decide) ?_
  refine lv_icmp_ge (tgt := 14) zx zb dX11_clashes_2 (by decide) (fun c_2 => ?_) (fun c_2 => ?_)
  · have c_2 : (-1) ≤ w := c_2
    refine lv_iconst (v := nI 0) zx zb dX11_clashes_14 (by decide) ?_
    refine lv_istore_n (lv' := [(2, .int (nI 0)), (0, .ref (t 0)), (1, .int w)]) zx zb dX11_clashes_15 rfl hl (by decide) rfl (fun ls hl => ?_)
    refine lv_iconst (v := nI 0) zx zb dX11_clashes_16 (by decide) ?_
    refine lv_istore_n (lv' := [(3, .int (nI 0)), (2, .int (nI 0)), (0, .ref (t 0)), (1, .int w)]) zx zb dX11_clashes_17 rfl hl (by decide) rfl (fun ls hl => ?_)
    have L18 : ∀ (nn : Nat) (a : Nat) (f : Nat), (a ≤ C.2.2.2.2.2.2.1) → (f ≤ 6 * a) → (((f, none) : clS) = clOut tr w (coTc C) a) → C.2.2.2.2.2.2.1 - a < nn → ∀ (H : Heap) (locs : List Loc), bP Γ [bTT Γ t s x V, bSt Γ s c y p pc, bCo Γ c k C, bTs Γ c k tr] H → bD AA [bTT Γ t s x V, bSt Γ s c y p pc, bCo Γ c k C, bTs Γ c k tr] → va_S AA ss.heap H locs → ∀ (ls : Array Slot), lv_has ls 5 [(0, .ref (t 0)), (1, .int w), (2, .int (nI f)), (3, .int (nI a))] → W pp l ee { frames := 2, cells := 0, slots := 0, locals := 45 } ss mm [.ref (t 0), .int w].toArray bb me cd H locs 0 0 QQ (F0 mm 18 ls []) := by
      intro nn
      induction nn with
      | zero => intro a f ha hf hs hm; exact absurd hm (Nat.not_lt_zero _)
      | succ nn ih18 =>
        intro a f ha hf hs hm18 H locs hP hD hS ls hl
        refine lv_iload_n zx zb dX11_clashes_18 rfl (lv_at hl 3 rfl) ?_
        refine lv_aload_n zx zb dX11_clashes_19 rfl (lv_at hl 0 rfl) ?_
        refine g_get (v := .ref (s 0)) XX hP 0 0 rfl rfl rfl iwX11 0 (by decide) fl_X11_30 rfl dX11_clashes_20 ?_
        refine g_get (v := .ref (c 0)) XX hP 1 0 rfl rfl rfl iwX8 0 (by decide) fl_X11_100 rfl dX11_clashes_23 ?_
        refine g_get (v := .int (nI (C.2.2.2.2.2.2.1))) XX hP 2 0 rfl rfl rfl iwX2 8 (by decide) fl_X11_216 rfl dX11_clashes_26 ?_
        refine lv_icmp_ge (tgt := 93) zx zb dX11_clashes_29 (by decide) (fun c_29 => ?_) (fun c_29 => ?_)
        · have c_29 : C.2.2.2.2.2.2.1 ≤ a := (nI_leI (a := C.2.2.2.2.2.2.1) (b := a) (by omega) (by omega)).mp c_29
          refine lv_iload_n zx zb dX11_clashes_93 rfl (lv_at hl 1 rfl) ?_
          refine lv_iconst (v := (-1)) zx zb dX11_clashes_94 (by decide) ?_
          refine lv_icmp_ne (tgt := 102) zx zb dX11_clashes_95 (by decide) (fun c_95 => ?_) (fun c_95 => ?_)
          · have c_95 : ¬ (w = (-1)) := c_95
            refine lv_bipush (v := (-5)) zx zb dX11_clashes_102 (by decide) ?_
            exact fin _ _ (-5) V 104 _ dX11_clashes_104 (fun h => by cases h) ⟨(by have e : a = C.2.2.2.2.2.2.1 := (by omega); subst e; rw [clR_end (Int32.not_lt.mpr c_2) hs]; first | rw [if_pos c_95] | rw [if_neg c_95]), (by unfold stV; rw [decide_eq_true c_2]; rfl)⟩ hP hD hS
          · have c_95 : w = (-1) := c_95
            refine lv_iload_n zx zb dX11_clashes_98 rfl (lv_at hl 2 rfl) ?_
            refine lv_goto (tgt := 104) zx zb dX11_clashes_99 (by decide) ?_
            exact fin _ _ (nI f) V 104 _ dX11_clashes_104 (fun h => by cases h) ⟨(by have e : a = C.2.2.2.2.2.2.1 := (by omega); subst e; rw [clR_end (Int32.not_lt.mpr c_2) hs]; first | rw [if_pos c_95] | rw [if_neg c_95]), (by unfold stV; rw [decide_eq_true c_2]; rfl)⟩ hP hD hS
        · have c_29 : ¬ (C.2.2.2.2.2.2.1 ≤ a) := fun h => c_29 ((nI_leI (a := C.2.2.2.2.2.2.1) (b := a) (by omega) (by omega)).mpr h)
          refine lv_iload_n zx zb dX11_clashes_32 rfl (lv_at hl 3 rfl) ?_
          refine lv_iconst (v := nI 1) zx zb dX11_clashes_33 (by decide) ?_
          refine lv_iadd zx zb dX11_clashes_34 ?_
          refine g_top (y := nI (a + 1)) (nI_add a 1) ?_
          refine lv_istore (lv' := [(4, .int (nI (a + 1))), (0, .ref (t 0)), (1, .int w), (2, .int (nI f)), (3, .int (nI a))]) zx zb dX11_clashes_35 hl (by decide) rfl (fun ls hl => ?_)
          have L37 : ∀ (nn : Nat) (b : Nat) (f : Nat), (a + 1 ≤ b ∧ b ≤ C.2.2.2.2.2.2.1) → (f ≤ 6 * a + b) → (((f, none) : clS) = clIn tr w a (clOut tr w (coTc C) a) (b - (a + 1))) → C.2.2.2.2.2.2.1 - b < nn → ∀ (H : Heap) (locs : List Loc), bP Γ [bTT Γ t s x V, bSt Γ s c y p pc, bCo Γ c k C, bTs Γ c k tr] H → bD AA [bTT Γ t s x V, bSt Γ s c y p pc, bCo Γ c k C, bTs Γ c k tr] → va_S AA ss.heap H locs → ∀ (ls : Array Slot), lv_has ls 5 [(0, .ref (t 0)), (1, .int w), (2, .int (nI f)), (3, .int (nI a)), (4, .int (nI b))] → W pp l ee { frames := 2, cells := 0, slots := 0, locals := 45 } ss mm [.ref (t 0), .int w].toArray bb me cd H locs 0 0 QQ (F0 mm 37 ls []) := by
            intro nn
            induction nn with
            | zero => intro b f hb hf hs hm; exact absurd hm (Nat.not_lt_zero _)
            | succ nn ih37 =>
              intro b f hb hf hs hm37 H locs hP hD hS ls hl
              refine lv_iload zx zb dX11_clashes_37 (lv_at hl 4 rfl) ?_
              refine lv_aload_n zx zb dX11_clashes_39 rfl (lv_at hl 0 rfl) ?_
              refine g_get (v := .ref (s 0)) XX hP 0 0 rfl rfl rfl iwX11 0 (by decide) fl_X11_30 rfl dX11_clashes_40 ?_
              refine g_get (v := .ref (c 0)) XX hP 1 0 rfl rfl rfl iwX8 0 (by decide) fl_X11_100 rfl dX11_clashes_43 ?_
              refine g_get (v := .int (nI (C.2.2.2.2.2.2.1))) XX hP 2 0 rfl rfl rfl iwX2 8 (by decide) fl_X11_216 rfl dX11_clashes_46 ?_
              refine lv_icmp_ge (tgt := 87) zx zb dX11_clashes_49 (by decide) (fun c_49 => ?_) (fun c_49 => ?_)
              · have c_49 : C.2.2.2.2.2.2.1 ≤ b := (nI_leI (a := C.2.2.2.2.2.2.1) (b := b) (by omega) (by omega)).mp c_49
                refine lv_iinc (v := nI (a + 1)) (lv' := [(3, .int (nI (a + 1))), (0, .ref (t 0)), (1, .int w), (2, .int (nI f)), (4, .int (nI b))]) zx zb dX11_clashes_87 hl (k := 3) rfl (nI_inc _ 1) (by decide) rfl (fun ls hl => ?_)
                refine lv_goto (tgt := 18) zx zb dX11_clashes_90 (by decide) ?_
                exact ih18 (a + 1) f (by omega) (by omega) (by rw [clOut, show coTc C - (a + 1) = b - (a + 1) by show C.2.2.2.2.2.2.1 - (a + 1) = b - (a + 1); omega]; exact hs) (by omega) _ _ hP hD hS _ (lv_sub hl [1, 2, 3, 0] rfl)
              · have c_49 : ¬ (C.2.2.2.2.2.2.1 ≤ b) := fun h => c_49 ((nI_leI (a := C.2.2.2.2.2.2.1) (b := b) (by omega) (by omega)).mpr h)
                refine lv_aload_n zx zb dX11_clashes_52 rfl (lv_at hl 0 rfl) ?_
                refine lv_iload_n zx zb dX11_clashes_53 rfl (lv_at hl 3 rfl) ?_
                refine lv_iload zx zb dX11_clashes_54 (lv_at hl 4 rfl) ?_
                refine call_Vi (As := [.int (nI a), .int (nI b)]) (rest := []) XX cv_X11_236 (c_X11_clash Γ l t s x V c k y p pc C tr a b (by omega) (by omega)) hP hD hS hA [0, 1, 2, 3] (by decide) rfl (fun _ => rfl) 0 0 rfl rfl rfl rfl hl.1 rfl ⟨⟨by decide, by decide⟩, by decide, by decide⟩ (Nat.le_of_ble_eq_true rfl) dX11_clashes_56 (fun r_56 u H locs hw hP hD hS => ?_)
                have hw := hw.symm
                subst hw
                have hP : bP Γ [bTT Γ t s x V, bSt Γ s c y p pc, bCo Γ c k C, bTs Γ c k tr] H := hP
                have hD : bD AA [bTT Γ t s x V, bSt Γ s c y p pc, bCo Γ c k C, bTs Γ c k tr] := hD
                refine lv_if_ne (tgt := 65) zx zb dX11_clashes_59 (by decide) (fun c_59 => ?_) (fun c_59 => ?_)
                · have c_59 : (clP tr a b) = true := bI_ne c_59
                  refine lv_iload_n zx zb dX11_clashes_65 rfl (lv_at hl 2 rfl) ?_
                  refine lv_iload_n zx zb dX11_clashes_66 rfl (lv_at hl 1 rfl) ?_
                  refine lv_icmp_ne (tgt := 78) zx zb dX11_clashes_67 (by decide) (fun c_67 => ?_) (fun c_67 => ?_)
                  · have c_67 : ¬ ((nI f) = w) := c_67
                    refine lv_iinc (v := nI (f + 1)) (lv' := [(2, .int (nI (f + 1))), (0, .ref (t 0)), (1, .int w), (3, .int (nI a)), (4, .int (nI b))]) zx zb dX11_clashes_78 hl (k := 2) rfl (nI_inc _ 1) (by decide) rfl (fun ls hl => ?_)
                    refine lv_iinc (v := nI (b + 1)) (lv' := [(4, .int (nI (b + 1))), (2, .int (nI (f + 1))), (0, .ref (t 0)), (1, .int w), (3, .int (nI a))]) zx zb dX11_clashes_81 hl (k := 4) rfl (nI_inc _ 1) (by decide) rfl (fun ls hl => ?_)
                    refine lv_goto (tgt := 37) zx zb dX11_clashes_84 (by decide) ?_
                    exact ih37 (b + 1) (f + 1) (by omega) (by omega) (by first | exact clIn_no hb.1 hs c_59 | exact clIn_ys hb.1 hs c_59 c_67) (by omega) _ _ hP hD hS _ (lv_sub hl [2, 3, 1, 4, 0] rfl)
                  · have c_67 : (nI f) = w := c_67
                    refine lv_bipush (v := nI 10) zx zb dX11_clashes_70 (by decide) ?_
                    refine lv_iload_n zx zb dX11_clashes_72 rfl (lv_at hl 3 rfl) ?_
                    refine lv_imul zx zb dX11_clashes_73 ?_
                    refine g_top (y := nI (10 * a)) (pk_mul 10 a) ?_
                    refine lv_iload zx zb dX11_clashes_74 (lv_at hl 4 rfl) ?_
                    refine lv_iadd zx zb dX11_clashes_76 ?_
                    refine g_top (y := nI (10 * a + b)) (nI_add (10 * a) b) ?_
                    exact fin _ _ (nI (10 * a + b)) V 77 _ dX11_clashes_77 (fun h => by cases h) ⟨(clR_hit (Int32.not_lt.mpr c_2) (by show a < C.2.2.2.2.2.2.1; omega) hb.1 (by show b < C.2.2.2.2.2.2.1; omega) hs c_59 c_67), (by unfold stV; rw [decide_eq_true c_2]; rfl)⟩ hP hD hS
                · have c_59 : (clP tr a b) = false := bI_0.mp c_59
                  refine lv_goto (tgt := 81) zx zb dX11_clashes_62 (by decide) ?_
                  refine lv_iinc (v := nI (b + 1)) (lv' := [(4, .int (nI (b + 1))), (0, .ref (t 0)), (1, .int w), (2, .int (nI f)), (3, .int (nI a))]) zx zb dX11_clashes_81 hl (k := 4) rfl (nI_inc _ 1) (by decide) rfl (fun ls hl => ?_)
                  refine lv_goto (tgt := 37) zx zb dX11_clashes_84 (by decide) ?_
                  exact ih37 (b + 1) f (by omega) (by omega) (by first | exact clIn_no hb.1 hs c_59 | exact clIn_ys hb.1 hs c_59 c_67) (by omega) _ _ hP hD hS _ (lv_sub hl [1, 2, 3, 4, 0] rfl)
          exact L37 _ (a + 1) f (by omega) (by omega) (by rw [Nat.sub_self]; exact hs) (Nat.lt_succ_self _) _ _ hP hD hS _ (lv_sub hl [1, 2, 3, 4, 0] rfl)
    exact L18 _ 0 0 (by omega) (by omega) (rfl) (Nat.lt_succ_self _) _ _ hP hD hS _ (lv_sub hl [2, 3, 1, 0] rfl)
  · have c_2 : ¬ ((-1) ≤ w) := c_2
    refine lv_aload_n zx zb dX11_clashes_5 rfl (lv_at hl 0 rfl) ?_
    refine lv_bipush (v := (-2)) zx zb dX11_clashes_6 (by decide) ?_
    refine lv_bipush (v := (-10)) zx zb dX11_clashes_8 (by decide) ?_
    refine call_Vi (As := [.int (-2), .int (-10)]) (rest := []) XX cv_X11_79 (c_X11_refused Γ l t s x V (-2) (-10) ) hP hD hS hA [0] (by decide) rfl (fun _ => rfl) 0 0 rfl rfl rfl rfl hl.1 rfl ⟨⟨by decide, by decide⟩, by decide, by decide⟩ (Nat.le_of_ble_eq_true rfl) dX11_clashes_10 (fun r_10 u H locs hw hP hD hS => ?_)
    obtain ⟨hw1, hw2⟩ := hw
    have hw1 := hw1.symm
    have hw2 := hw2.symm
    subst hw1
    subst hw2
    have hP : bP Γ [bTT Γ t s x (ttRef V (-2)), bSt Γ s c y p pc, bCo Γ c k C, bTs Γ c k tr] H := hP
    have hD : bD AA [bTT Γ t s x (ttRef V (-2)), bSt Γ s c y p pc, bCo Γ c k C, bTs Γ c k tr] := hD
    exact fin _ _ (-10) (ttRef V (-2)) 13 _ dX11_clashes_13 (fun h => by cases h) ⟨(by unfold clR; rw [if_pos (Int32.not_le.mp c_2)]), (by unfold stV; rw [decide_eq_false c_2, ttRef_b]; rfl)⟩ hP hD hS

set_option maxHeartbeats 4000000 in
set_option maxRecDepth 100000 in
theorem c_X11_staysDry (Γ : GG) (l : Launch) (t : Nat → Nat) (s : Nat → Nat) (x : Nat → Nat) (V : V3) (c : Nat → Nat) (k : Nat → Nat) (y : Nat → Nat) (p : Nat → Nat → Nat) (pc : Nat) (C : CoV) (tr : Nat → TrV) (Y : YrV) (d : Nat → Nat) (z : Nat → Nat) (p2 : Nat → Nat → Nat) (pc2 : Nat) (Z : YrV) (q : Int32) (m : Nat) (j : Nat) (f : Nat) (hn : C.1 ≤ 8) (htc : C.2.2.2.2.2.2.1 ≤ 6) (hkd : ∀ i, i < 6 → (tr i).1 < 6) (hm : m ≤ 12) (hj : j < 8) : Ci Γ l yX11_staysDry cX11_staysDry 6 (some (.boolean)) 5 114 0 0 [.ref (t 0), .int q, .int (nI m), .int (nI j), .int (nI f)] [bTT Γ t s x V, bSt Γ s c y p pc, bCo Γ c k C, bTs Γ c k tr, bKd Γ k, bYr Γ y Y, bSt Γ x d z p2 pc2, bYr Γ z Z] (fun (r : Int32) (u : YrV) => r = bI (sdP C tr Y q m j (nI f))) (fun (u : YrV) => [bTT Γ t s x V, bSt Γ s c y p pc, bCo Γ c k C, bTs Γ c k tr, bKd Γ k, bYr Γ y Y, bSt Γ x d z p2 pc2, bYr Γ z u]) := by
  refine Ci.of (Or.inr rfl) (by decide) (Nat.le_of_ble_eq_true rfl) ?_
  intro pp ee ss mm bb me cd AA QQ XX hnm hA hP hD fin ls hl
  obtain ⟨zx, zb, hml, hown, hts, hK⟩ := id XX
  have hS : va_S AA ss.heap ss.heap [] := va_S.rf
  have hl : lv_has ls 6 [(0, .ref (t 0)), (1, .int q), (2, .int (nI m)), (3, .int (nI j)), (4, .int (nI f))] := hl
  refine lv_aload_n zx zb dX11_staysDry_0 rfl (lv_at hl 0 rfl) ?_
  refine g_get (v := .ref (s 0)) XX hP 0 0 rfl rfl rfl iwX11 0 (by decide) fl_X11_30 rfl dX11_staysDry_1 ?_
  refine g_get (v := .ref (y 0)) XX hP 1 0 rfl rfl rfl iwX8 1 (by decide) fl_X11_82 rfl dX11_staysDry_4 ?_
  refine g_get (v := .ref (y 1)) XX hP 5 0 rfl rfl rfl iwX10 3 (by decide) fl_X11_171 rfl dX11_staysDry_7 ?_
  refine lv_iload_n zx zb dX11_staysDry_10 rfl (lv_at hl 3 rfl) ?_
  refine g_ialdN (i := j) XX hP 5 1 rfl rfl (by omega) (by decide) dX11_staysDry_11 ?_
  refine lv_iload zx zb dX11_staysDry_12 (lv_at hl 4 rfl) ?_
  refine lv_iadd zx zb dX11_staysDry_14 ?_
  refine lv_bipush (v := nI 9) zx zb dX11_staysDry_15 (by decide) ?_
  refine lv_icmp_le (tgt := 22) zx zb dX11_staysDry_17 (by decide) (fun c_17 => ?_) (fun c_17 => ?_)
  · have c_17 : ((Y.2.2.2.1 j) + (nI f)) ≤ (9 : Int32) := c_17
    refine lv_aload_n zx zb dX11_staysDry_22 rfl (lv_at hl 0 rfl) ?_
    refine g_get (v := .ref (x 0)) XX hP 0 0 rfl rfl rfl iwX11 1 (by decide) fl_X11_36 rfl dX11_staysDry_23 ?_
    refine g_get (v := .ref (z 0)) XX hP 6 0 rfl rfl rfl iwX8 1 (by decide) fl_X11_82 rfl dX11_staysDry_26 ?_
    refine lv_aload_n zx zb dX11_staysDry_29 rfl (lv_at hl 0 rfl) ?_
    refine g_get (v := .ref (s 0)) XX hP 0 0 rfl rfl rfl iwX11 0 (by decide) fl_X11_30 rfl dX11_staysDry_30 ?_
    refine g_get (v := .ref (y 0)) XX hP 1 0 rfl rfl rfl iwX8 1 (by decide) fl_X11_82 rfl dX11_staysDry_33 ?_
    refine call_Vv (As := [.ref (y 0)]) (rest := []) XX cv_X11_142 (c_X10_copyOf Γ l z Z y Y ) hP hD hS hA [7, 5] (by decide) rfl (fun _ => rfl) 7 0 rfl rfl rfl rfl hl.1 rfl ⟨⟨by decide, by decide⟩, by decide, by decide⟩ (Nat.le_of_ble_eq_true rfl) dX11_staysDry_36 (fun u H locs hw hP hD hS => ?_)
    have hw := hw.symm
    subst hw
    have hP : bP Γ [bTT Γ t s x V, bSt Γ s c y p pc, bCo Γ c k C, bTs Γ c k tr, bKd Γ k, bYr Γ y Y, bSt Γ x d z p2 pc2, bYr Γ z Y] H := hP
    have hD : bD AA [bTT Γ t s x V, bSt Γ s c y p pc, bCo Γ c k C, bTs Γ c k tr, bKd Γ k, bYr Γ y Y, bSt Γ x d z p2 pc2, bYr Γ z Y] := hD
    refine lv_aload_n zx zb dX11_staysDry_39 rfl (lv_at hl 0 rfl) ?_
    refine g_get (v := .ref (x 0)) XX hP 0 0 rfl rfl rfl iwX11 1 (by decide) fl_X11_36 rfl dX11_staysDry_40 ?_
    refine g_get (v := .ref (z 0)) XX hP 6 0 rfl rfl rfl iwX8 1 (by decide) fl_X11_82 rfl dX11_staysDry_43 ?_
    refine g_get (v := .ref (z 1)) XX hP 7 0 rfl rfl rfl iwX10 3 (by decide) fl_X11_171 rfl dX11_staysDry_46 ?_
    refine lv_iload_n zx zb dX11_staysDry_49 rfl (lv_at hl 3 rfl) ?_
    refine lv_dup2_11 zx zb dX11_staysDry_50 rfl rfl ?_
    refine g_ialdN (i := j) XX hP 7 1 rfl rfl (by omega) (by decide) dX11_staysDry_51 ?_
    refine lv_iload zx zb dX11_staysDry_52 (lv_at hl 4 rfl) ?_
    refine lv_iadd zx zb dX11_staysDry_54 ?_
    refine g_iastN (x := (Y.2.2.2.1 j) + (nI f)) (i := j) (blk' := bYr Γ z (Y.1, Y.2.1, Y.2.2.1, upd Y.2.2.2.1 j ((Y.2.2.2.1 j) + (nI f)), Y.2.2.2.2)) (bs' := [bTT Γ t s x V, bSt Γ s c y p pc, bCo Γ c k C, bTs Γ c k tr, bKd Γ k, bYr Γ y Y, bSt Γ x d z p2 pc2, bYr Γ z (Y.1, Y.2.1, Y.2.2.1, upd Y.2.2.2.1 j ((Y.2.2.2.1 j) + (nI f)), Y.2.2.2.2)]) XX hP hD hS 7 1 rfl rfl (by omega) (by decide) rfl rfl dX11_staysDry_55 (fun H locs hP hD hS => ?_)
    refine lv_iconst (v := nI 0) zx zb dX11_staysDry_56 (by decide) ?_
    refine lv_istore (lv' := [(5, .int (nI 0)), (0, .ref (t 0)), (1, .int q), (2, .int (nI m)), (3, .int (nI j)), (4, .int (nI f))]) zx zb dX11_staysDry_57 hl (by decide) rfl (fun ls hl => ?_)
    have L59 : ∀ (nn : Nat) (i : Nat) (Q : YrV), (i ≤ m) → (Q = runM C tr (dkUp Y j (nI f)) i) → (allN (drP C tr (dkUp Y j (nI f)) q) i = true) → m - i < nn → ∀ (H : Heap) (locs : List Loc), bP Γ [bTT Γ t s x V, bSt Γ s c y p pc, bCo Γ c k C, bTs Γ c k tr, bKd Γ k, bYr Γ y Y, bSt Γ x d z p2 pc2, bYr Γ z Q] H → bD AA [bTT Γ t s x V, bSt Γ s c y p pc, bCo Γ c k C, bTs Γ c k tr, bKd Γ k, bYr Γ y Y, bSt Γ x d z p2 pc2, bYr Γ z Q] → va_S AA ss.heap H locs → ∀ (ls : Array Slot), lv_has ls 6 [(0, .ref (t 0)), (1, .int q), (2, .int (nI m)), (5, .int (nI i))] → W pp l ee { frames := 5, cells := 0, slots := 0, locals := 114 } ss mm [.ref (t 0), .int q, .int (nI m), .int (nI j), .int (nI f)].toArray bb me cd H locs 0 0 QQ (F0 mm 59 ls []) := by
      intro nn
      induction nn with
      | zero => intro i Q hi hQ ha hm; exact absurd hm (Nat.not_lt_zero _)
      | succ nn ih59 =>
        intro i Q hi hQ ha hm59 H locs hP hD hS ls hl
        refine lv_iload zx zb dX11_staysDry_59 (lv_at hl 3 rfl) ?_
        refine lv_iload_n zx zb dX11_staysDry_61 rfl (lv_at hl 2 rfl) ?_
        refine lv_icmp_ge (tgt := 89) zx zb dX11_staysDry_62 (by decide) (fun c_62 => ?_) (fun c_62 => ?_)
        · have c_62 : m ≤ i := (nI_leI (a := m) (b := i) (by omega) (by omega)).mp c_62
          refine lv_iconst (v := nI 1) zx zb dX11_staysDry_89 (by decide) ?_
          exact fin _ _ (nI 1) Q 90 _ dX11_staysDry_90 (fun _ => nar1) (by have e : i = m := (by omega); subst e; exact retT (by unfold sdP; rw [ha, decide_eq_true c_17]; rfl)) hP hD hS
        · have c_62 : ¬ (m ≤ i) := fun h => c_62 ((nI_leI (a := m) (b := i) (by omega) (by omega)).mpr h)
          refine lv_aload_n zx zb dX11_staysDry_65 rfl (lv_at hl 0 rfl) ?_
          refine lv_aload_n zx zb dX11_staysDry_66 rfl (lv_at hl 0 rfl) ?_
          refine g_get (v := .ref (s 0)) XX hP 0 0 rfl rfl rfl iwX11 0 (by decide) fl_X11_30 rfl dX11_staysDry_67 ?_
          refine g_get (v := .ref (c 0)) XX hP 1 0 rfl rfl rfl iwX8 0 (by decide) fl_X11_100 rfl dX11_staysDry_70 ?_
          refine call_Vi (As := [.ref (c 0)]) (rest := []) XX cv_X11_206 (c_X11_runAhead Γ l t s x V c k C tr d z p2 pc2 Q (hn) (htc) (hkd)) hP hD hS hA [0, 6, 2, 3, 4, 7] (by decide) rfl (fun _ => rfl) 0 0 rfl rfl rfl rfl hl.1 rfl ⟨⟨by decide, by decide⟩, by decide, by decide⟩ (Nat.le_of_ble_eq_true rfl) dX11_staysDry_73 (fun r_73 u H locs hw hP hD hS => ?_)
          obtain ⟨hw1, hw2⟩ := hw
          have hw1 := hw1.symm
          have hw2 := hw2.symm
          subst hw1
          subst hw2
          have hP : bP Γ [bTT Γ t s x V, bSt Γ s c y p pc, bCo Γ c k C, bTs Γ c k tr, bKd Γ k, bYr Γ y Y, bSt Γ x d z p2 pc2, bYr Γ z (coNext C tr Q)] H := hP
          have hD : bD AA [bTT Γ t s x V, bSt Γ s c y p pc, bCo Γ c k C, bTs Γ c k tr, bKd Γ k, bYr Γ y Y, bSt Γ x d z p2 pc2, bYr Γ z (coNext C tr Q)] := hD
          refine lv_iload_n zx zb dX11_staysDry_76 rfl (lv_at hl 1 rfl) ?_
          refine lv_iand zx zb dX11_staysDry_77 ?_
          refine lv_if_eq (tgt := 83) zx zb dX11_staysDry_78 (by decide) (fun c_78 => ?_) (fun c_78 => ?_)
          · have c_78 : ((coNextF C tr Q) &&& q) = (0 : Int32) := c_78
            refine lv_iinc (v := nI (i + 1)) (lv' := [(5, .int (nI (i + 1))), (0, .ref (t 0)), (1, .int q), (2, .int (nI m))]) zx zb dX11_staysDry_83 hl (k := 3) rfl (nI_inc _ 1) (by decide) rfl (fun ls hl => ?_)
            refine lv_goto (tgt := 59) zx zb dX11_staysDry_86 (by decide) ?_
            exact ih59 (i + 1) (coNext C tr Q) (by omega) (by rw [runM, ← hQ]) (by rw [allN, ha, Bool.true_and]; unfold drP; rw [← hQ]; exact decide_eq_true c_78) (by omega) _ _ hP hD hS _ (lv_sub hl [1, 2, 3, 0] rfl)
          · have c_78 : ¬ (((coNextF C tr Q) &&& q) = (0 : Int32)) := c_78
            refine lv_iconst (v := nI 0) zx zb dX11_staysDry_81 (by decide) ?_
            exact fin _ _ (nI 0) (coNext C tr Q) 82 _ dX11_staysDry_82 (fun _ => nar0) (retF (by unfold sdP; rw [allN_f (i := i) (by omega) (by unfold drP; rw [← hQ]; exact decide_eq_false c_78), Bool.and_false])) hP hD hS
    exact L59 _ 0 (Y.1, Y.2.1, Y.2.2.1, upd Y.2.2.2.1 j ((Y.2.2.2.1 j) + (nI f)), Y.2.2.2.2) (by omega) (rfl) (rfl) (Nat.lt_succ_self _) _ _ hP hD hS _ (lv_sub hl [1, 2, 3, 0] rfl)
  · have c_17 : ¬ (((Y.2.2.2.1 j) + (nI f)) ≤ (9 : Int32)) := c_17
    refine lv_iconst (v := nI 0) zx zb dX11_staysDry_20 (by decide) ?_
    exact fin _ _ (nI 0) Z 21 _ dX11_staysDry_21 (fun _ => nar0) (retF (by unfold sdP; rw [decide_eq_false c_17]; rfl)) hP hD hS

set_option maxHeartbeats 4000000 in
set_option maxRecDepth 100000 in
theorem c_X11_cheapest (Γ : GG) (l : Launch) (t : Nat → Nat) (s : Nat → Nat) (x : Nat → Nat) (V : V3) (c : Nat → Nat) (k : Nat → Nat) (y : Nat → Nat) (p : Nat → Nat → Nat) (pc : Nat) (C : CoV) (tr : Nat → TrV) (Y : YrV) (d : Nat → Nat) (z : Nat → Nat) (p2 : Nat → Nat → Nat) (pc2 : Nat) (Z : YrV) (q : Int32) (a : Int32) (w : Int32) (hn : C.1 ≤ 8) (htc : C.2.2.2.2.2.2.1 ≤ 6) (hkd : ∀ i, i < 6 → (tr i).1 < 6) : Ci Γ l yX11_cheapest cX11_cheapest 6 (some (.int)) 6 139 0 0 [.ref (t 0), .int q, .int a, .int w] [bTT Γ t s x V, bSt Γ s c y p pc, bCo Γ c k C, bTs Γ c k tr, bKd Γ k, bYr Γ y Y, bSt Γ x d z p2 pc2, bYr Γ z Z] (fun (r : Int32) (u : V3 × YrV) => r = chR C tr Y q a w ∧ u.1 = stV V (chOk C q a w)) (fun (u : V3 × YrV) => [bTT Γ t s x u.1, bSt Γ s c y p pc, bCo Γ c k C, bTs Γ c k tr, bKd Γ k, bYr Γ y Y, bSt Γ x d z p2 pc2, bYr Γ z u.2]) := by
  refine Ci.of (Or.inl rfl) (by decide) (Nat.le_of_ble_eq_true rfl) ?_
  intro pp ee ss mm bb me cd AA QQ XX hnm hA hP hD fin ls hl
  obtain ⟨zx, zb, hml, hown, hts, hK⟩ := id XX
  have hS : va_S AA ss.heap ss.heap [] := va_S.rf
  have hl : lv_has ls 6 [(0, .ref (t 0)), (1, .int q), (2, .int a), (3, .int w)] := hl
  refine lv_aload_n zx zb dX11_cheapest_0 rfl (lv_at hl 0 rfl) ?_
  refine lv_iload_n zx zb dX11_cheapest_1 rfl (lv_at hl 1 rfl) ?_
  refine call_Vi (As := [.int q]) (rest := []) XX cv_X11_227 (c_X11_isCells Γ l t s x V c k y p pc C q (hn)) hP hD hS hA [0, 1, 2] (by decide) rfl (fun _ => rfl) 0 0 rfl rfl rfl rfl hl.1 rfl ⟨⟨by decide, by decide⟩, by decide, by decide⟩ (Nat.le_of_ble_eq_true rfl) dX11_cheapest_2 (fun r_2 u H locs hw hP hD hS => ?_)
  have hw := hw.symm
  subst hw
  have hP : bP Γ [bTT Γ t s x V, bSt Γ s c y p pc, bCo Γ c k C, bTs Γ c k tr, bKd Γ k, bYr Γ y Y, bSt Γ x d z p2 pc2, bYr Γ z Z] H := hP
  have hD : bD AA [bTT Γ t s x V, bSt Γ s c y p pc, bCo Γ c k C, bTs Γ c k tr, bKd Γ k, bYr Γ y Y, bSt Γ x d z p2 pc2, bYr Γ z Z] := hD
  refine lv_if_eq (tgt := 27) zx zb dX11_cheapest_5 (by decide) (fun c_5 => ?_) (fun c_5 => ?_)
  · have c_5 : (wi q 0 (bit C.1 - 1)) = false := bI_0.mp c_5
    refine lv_aload_n zx zb dX11_cheapest_27 rfl (lv_at hl 0 rfl) ?_
    refine lv_bipush (v := (-2)) zx zb dX11_cheapest_28 (by decide) ?_
    refine lv_bipush (v := (-10)) zx zb dX11_cheapest_30 (by decide) ?_
    refine call_Vi (As := [.int (-2), .int (-10)]) (rest := []) XX cv_X11_79 (c_X11_refused Γ l t s x V (-2) (-10) ) hP hD hS hA [0] (by decide) rfl (fun _ => rfl) 0 0 rfl rfl rfl rfl hl.1 rfl ⟨⟨by decide, by decide⟩, by decide, by decide⟩ (Nat.le_of_ble_eq_true rfl) dX11_cheapest_32 (fun r_32 u H locs hw hP hD hS => ?_)
    obtain ⟨hw1, hw2⟩ := hw
    have hw1 := hw1.symm
    have hw2 := hw2.symm
    subst hw1
    subst hw2
    have hP : bP Γ [bTT Γ t s x (ttRef V (-2)), bSt Γ s c y p pc, bCo Γ c k C, bTs Γ c k tr, bKd Γ k, bYr Γ y Y, bSt Γ x d z p2 pc2, bYr Γ z Z] H := hP
    have hD : bD AA [bTT Γ t s x (ttRef V (-2)), bSt Γ s c y p pc, bCo Γ c k C, bTs Γ c k tr, bKd Γ k, bYr Γ y Y, bSt Γ x d z p2 pc2, bYr Γ z Z] := hD
    exact fin _ _ (-10) ((ttRef V (-2)), Z) 35 _ dX11_cheapest_35 (fun h => by cases h) (⟨by simp [chR, chOk, c_5], by simp only [stV, chOk, c_5, ttRef_b, Bool.false_and, Bool.and_false]; rfl⟩) hP hD hS
  · have c_5 : (wi q 0 (bit C.1 - 1)) = true := bI_ne c_5
    refine lv_iload_n zx zb dX11_cheapest_8 rfl (lv_at hl 2 rfl) ?_
    refine lv_iconst (v := nI 1) zx zb dX11_cheapest_9 (by decide) ?_
    refine lv_bipush (v := nI 12) zx zb dX11_cheapest_10 (by decide) ?_
    refine callR_Si (As := [.int a, .int (nI 1), .int (nI 12)]) (rest := []) XX cs_X11_75 (c_X11_within Γ l a 1 12 ) hP hD hS hA nil_mem nil_D rfl hl.1 rfl ⟨⟨by decide, by decide⟩, by decide, by decide⟩ (Nat.le_of_ble_eq_true rfl) dX11_cheapest_12 (fun r_12 H locs hw hP hS => ?_)
    have hw := hw.symm
    subst hw
    refine lv_if_eq (tgt := 27) zx zb dX11_cheapest_15 (by decide) (fun c_15 => ?_) (fun c_15 => ?_)
    · have c_15 : (wi a 1 12) = false := bI_0.mp c_15
      refine lv_aload_n zx zb dX11_cheapest_27 rfl (lv_at hl 0 rfl) ?_
      refine lv_bipush (v := (-2)) zx zb dX11_cheapest_28 (by decide) ?_
      refine lv_bipush (v := (-10)) zx zb dX11_cheapest_30 (by decide) ?_
      refine call_Vi (As := [.int (-2), .int (-10)]) (rest := []) XX cv_X11_79 (c_X11_refused Γ l t s x V (-2) (-10) ) hP hD hS hA [0] (by decide) rfl (fun _ => rfl) 0 0 rfl rfl rfl rfl hl.1 rfl ⟨⟨by decide, by decide⟩, by decide, by decide⟩ (Nat.le_of_ble_eq_true rfl) dX11_cheapest_32 (fun r_32 u H locs hw hP hD hS => ?_)
      obtain ⟨hw1, hw2⟩ := hw
      have hw1 := hw1.symm
      have hw2 := hw2.symm
      subst hw1
      subst hw2
      have hP : bP Γ [bTT Γ t s x (ttRef V (-2)), bSt Γ s c y p pc, bCo Γ c k C, bTs Γ c k tr, bKd Γ k, bYr Γ y Y, bSt Γ x d z p2 pc2, bYr Γ z Z] H := hP
      have hD : bD AA [bTT Γ t s x (ttRef V (-2)), bSt Γ s c y p pc, bCo Γ c k C, bTs Γ c k tr, bKd Γ k, bYr Γ y Y, bSt Γ x d z p2 pc2, bYr Γ z Z] := hD
      exact fin _ _ (-10) ((ttRef V (-2)), Z) 35 _ dX11_cheapest_35 (fun h => by cases h) (⟨by simp [chR, chOk, c_5, c_15], by simp only [stV, chOk, c_5, c_15, ttRef_b, Bool.false_and, Bool.and_false]; rfl⟩) hP hD hS
    · have c_15 : (wi a 1 12) = true := bI_ne c_15
      refine lv_iload_n zx zb dX11_cheapest_18 rfl (lv_at hl 3 rfl) ?_
      refine lv_iconst (v := nI 0) zx zb dX11_cheapest_19 (by decide) ?_
      refine lv_iconst (v := nI 1) zx zb dX11_cheapest_20 (by decide) ?_
      refine callR_Si (As := [.int w, .int (nI 0), .int (nI 1)]) (rest := []) XX cs_X11_75 (c_X11_within Γ l w 0 1 ) hP hD hS hA nil_mem nil_D rfl hl.1 rfl ⟨⟨by decide, by decide⟩, by decide, by decide⟩ (Nat.le_of_ble_eq_true rfl) dX11_cheapest_21 (fun r_21 H locs hw hP hS => ?_)
      have hw := hw.symm
      subst hw
      refine lv_if_ne (tgt := 36) zx zb dX11_cheapest_24 (by decide) (fun c_24 => ?_) (fun c_24 => ?_)
      · have c_24 : (wi w 0 1) = true := bI_ne c_24
        obtain ⟨j, hj, rfl⟩ := wi_nat 1 12 c_15 rfl rfl (by decide)
        refine lv_iconst (v := nI 0) zx zb dX11_cheapest_36 (by decide) ?_
        refine lv_istore (lv' := [(4, .int (nI 0)), (0, .ref (t 0)), (1, .int q), (2, .int (nI j)), (3, .int w)]) zx zb dX11_cheapest_37 hl (by decide) rfl (fun ls hl => ?_)
        have L39 : ∀ (nn : Nat) (f : Nat) (Q : YrV), (f ≤ 10) → (∀ i, i < f → decide (chX C tr Y q j i < coN C) = false) → 10 - f < nn → ∀ (H : Heap) (locs : List Loc), bP Γ [bTT Γ t s x V, bSt Γ s c y p pc, bCo Γ c k C, bTs Γ c k tr, bKd Γ k, bYr Γ y Y, bSt Γ x d z p2 pc2, bYr Γ z Q] H → bD AA [bTT Γ t s x V, bSt Γ s c y p pc, bCo Γ c k C, bTs Γ c k tr, bKd Γ k, bYr Γ y Y, bSt Γ x d z p2 pc2, bYr Γ z Q] → va_S AA ss.heap H locs → ∀ (ls : Array Slot), lv_has ls 6 [(0, .ref (t 0)), (1, .int q), (2, .int (nI j)), (3, .int w), (4, .int (nI f))] → W pp l ee { frames := 6, cells := 0, slots := 0, locals := 139 } ss mm [.ref (t 0), .int q, .int (nI j), .int w].toArray bb me cd H locs 0 0 QQ (F0 mm 39 ls []) := by
          intro nn
          induction nn with
          | zero => intro f Q hf hp hm; exact absurd hm (Nat.not_lt_zero _)
          | succ nn ih39 =>
            intro f Q hf hp hm39 H locs hP hD hS ls hl
            refine lv_iload zx zb dX11_cheapest_39 (lv_at hl 4 rfl) ?_
            refine lv_bipush (v := nI 9) zx zb dX11_cheapest_41 (by decide) ?_
            refine lv_icmp_gt (tgt := 101) zx zb dX11_cheapest_43 (by decide) (fun c_43 => ?_) (fun c_43 => ?_)
            · have c_43 : 9 < f := (nI_ltI (a := 9) (b := f) (by omega) (by omega)).mp c_43
              refine lv_iconst (v := (-1)) zx zb dX11_cheapest_101 (by decide) ?_
              exact fin _ _ (-1) (V, Q) 102 _ dX11_cheapest_102 (fun h => by cases h) (ch_none (by unfold chOk; rw [c_5, c_15, c_24]; rfl) (by omega) (by have e : f = 10 := (by omega); subst e; exact firstN_eq hp (Or.inr rfl))) hP hD hS
            · have c_43 : ¬ (9 < f) := fun h => c_43 ((nI_ltI (a := 9) (b := f) (by omega) (by omega)).mpr h)
              refine lv_iconst (v := nI 0) zx zb dX11_cheapest_46 (by decide) ?_
              refine lv_istore (lv' := [(5, .int (nI 0)), (0, .ref (t 0)), (1, .int q), (2, .int (nI j)), (3, .int w), (4, .int (nI f))]) zx zb dX11_cheapest_47 hl (by decide) rfl (fun ls hl => ?_)
              have L49 : ∀ (nn : Nat) (x1 : Nat) (Q : YrV), (x1 ≤ C.1) → (∀ i, i < x1 → sdP C tr Y q j i (nI f) = false) → C.1 - x1 < nn → ∀ (H : Heap) (locs : List Loc), bP Γ [bTT Γ t s x V, bSt Γ s c y p pc, bCo Γ c k C, bTs Γ c k tr, bKd Γ k, bYr Γ y Y, bSt Γ x d z p2 pc2, bYr Γ z Q] H → bD AA [bTT Γ t s x V, bSt Γ s c y p pc, bCo Γ c k C, bTs Γ c k tr, bKd Γ k, bYr Γ y Y, bSt Γ x d z p2 pc2, bYr Γ z Q] → va_S AA ss.heap H locs → ∀ (ls : Array Slot), lv_has ls 6 [(0, .ref (t 0)), (1, .int q), (2, .int (nI j)), (3, .int w), (4, .int (nI f)), (5, .int (nI x1))] → W pp l ee { frames := 6, cells := 0, slots := 0, locals := 139 } ss mm [.ref (t 0), .int q, .int (nI j), .int w].toArray bb me cd H locs 0 0 QQ (F0 mm 49 ls []) := by
                intro nn
                induction nn with
                | zero => intro x1 Q hx hs hm; exact absurd hm (Nat.not_lt_zero _)
                | succ nn ih49 =>
                  intro x1 Q hx hs hm49 H locs hP hD hS ls hl
                  refine lv_iload zx zb dX11_cheapest_49 (lv_at hl 5 rfl) ?_
                  refine lv_aload_n zx zb dX11_cheapest_51 rfl (lv_at hl 0 rfl) ?_
                  refine g_get (v := .ref (s 0)) XX hP 0 0 rfl rfl rfl iwX11 0 (by decide) fl_X11_30 rfl dX11_cheapest_52 ?_
                  refine g_get (v := .ref (c 0)) XX hP 1 0 rfl rfl rfl iwX8 0 (by decide) fl_X11_100 rfl dX11_cheapest_55 ?_
                  refine g_get (v := .int (nI (C.1))) XX hP 2 0 rfl rfl rfl iwX2 1 (by decide) fl_X11_230 rfl dX11_cheapest_58 ?_
                  refine lv_icmp_ge (tgt := 95) zx zb dX11_cheapest_61 (by decide) (fun c_61 => ?_) (fun c_61 => ?_)
                  · have c_61 : C.1 ≤ x1 := (nI_leI (a := C.1) (b := x1) (by omega) (by omega)).mp c_61
                    refine lv_iinc (v := nI (f + 1)) (lv' := [(4, .int (nI (f + 1))), (0, .ref (t 0)), (1, .int q), (2, .int (nI j)), (3, .int w), (5, .int (nI x1))]) zx zb dX11_cheapest_95 hl (k := 4) rfl (nI_inc _ 1) (by decide) rfl (fun ls hl => ?_)
                    refine lv_goto (tgt := 39) zx zb dX11_cheapest_98 (by decide) ?_
                    exact ih39 (f + 1) Q (by omega) (lt_s hp (decide_eq_false (by unfold chX; rw [firstN_eq hs (Or.inr (show x1 = C.1 by omega))]; show ¬ x1 < C.1; omega))) (by omega) _ _ hP hD hS _ (lv_sub hl [1, 2, 3, 4, 0] rfl)
                  · have c_61 : ¬ (C.1 ≤ x1) := fun h => c_61 ((nI_leI (a := C.1) (b := x1) (by omega) (by omega)).mpr h)
                    refine lv_aload_n zx zb dX11_cheapest_64 rfl (lv_at hl 0 rfl) ?_
                    refine lv_iload_n zx zb dX11_cheapest_65 rfl (lv_at hl 1 rfl) ?_
                    refine lv_iload_n zx zb dX11_cheapest_66 rfl (lv_at hl 2 rfl) ?_
                    refine lv_iload zx zb dX11_cheapest_67 (lv_at hl 5 rfl) ?_
                    refine lv_iload zx zb dX11_cheapest_69 (lv_at hl 4 rfl) ?_
                    refine call_Vi (As := [.int q, .int (nI j), .int (nI x1), .int (nI f)]) (rest := []) XX cv_X11_233 (c_X11_staysDry Γ l t s x V c k y p pc C tr Y d z p2 pc2 Q q j x1 f (hn) (htc) (hkd) (by omega) (by omega)) hP hD hS hA [0, 1, 2, 3, 4, 5, 6, 7] (by decide) rfl (fun _ => rfl) 0 0 rfl rfl rfl rfl hl.1 rfl ⟨⟨by decide, by decide⟩, by decide, by decide⟩ (Nat.le_of_ble_eq_true rfl) dX11_cheapest_71 (fun r_71 u H locs hw hP hD hS => ?_)
                    obtain ⟨u_71, rfl⟩ : ∃ z, z = u := ⟨_, rfl⟩
                    have w_71 := hw
                    have hP : bP Γ [bTT Γ t s x V, bSt Γ s c y p pc, bCo Γ c k C, bTs Γ c k tr, bKd Γ k, bYr Γ y Y, bSt Γ x d z p2 pc2, bYr Γ z u_71] H := hP
                    have hD : bD AA [bTT Γ t s x V, bSt Γ s c y p pc, bCo Γ c k C, bTs Γ c k tr, bKd Γ k, bYr Γ y Y, bSt Γ x d z p2 pc2, bYr Γ z u_71] := hD
                    have w_71 := w_71.symm
                    subst w_71
                    refine lv_if_eq (tgt := 89) zx zb dX11_cheapest_74 (by decide) (fun c_74 => ?_) (fun c_74 => ?_)
                    · have c_74 : (sdP C tr Y q j x1 (nI f)) = false := bI_0.mp c_74
                      refine lv_iinc (v := nI (x1 + 1)) (lv' := [(5, .int (nI (x1 + 1))), (0, .ref (t 0)), (1, .int q), (2, .int (nI j)), (3, .int w), (4, .int (nI f))]) zx zb dX11_cheapest_89 hl (k := 5) rfl (nI_inc _ 1) (by decide) rfl (fun ls hl => ?_)
                      refine lv_goto (tgt := 49) zx zb dX11_cheapest_92 (by decide) ?_
                      exact ih49 (x1 + 1) u_71 (by omega) (lt_s hs c_74) (by omega) _ _ hP hD hS _ (lv_sub hl [1, 2, 3, 4, 5, 0] rfl)
                    · have c_74 : (sdP C tr Y q j x1 (nI f)) = true := bI_ne c_74
                      refine lv_iload_n zx zb dX11_cheapest_77 rfl (lv_at hl 3 rfl) ?_
                      refine lv_if_ne (tgt := 86) zx zb dX11_cheapest_78 (by decide) (fun c_78 => ?_) (fun c_78 => ?_)
                      · have c_78 : ¬ (w = (0 : Int32)) := c_78
                        refine lv_iload zx zb dX11_cheapest_86 (lv_at hl 5 rfl) ?_
                        exact fin _ _ (nI x1) (V, u_71) 88 _ dX11_cheapest_88 (fun h => by cases h) (by have e1 : chX C tr Y q j f = x1 := firstN_eq hs (Or.inl ⟨show x1 < C.1 by omega, c_74⟩); have e2 : chF C tr Y q j = f := firstN_eq hp (Or.inl ⟨by omega, decide_eq_true (by rw [e1]; show x1 < C.1; omega)⟩); exact ch_hit (by unfold chOk; rw [c_5, c_15, c_24]; rfl) (by omega) e1 e2 (by omega) (by first | exact Or.inl ⟨c_78, rfl⟩ | exact Or.inr ⟨c_78, rfl⟩)) hP hD hS
                      · have c_78 : w = (0 : Int32) := c_78
                        refine lv_iload zx zb dX11_cheapest_81 (lv_at hl 4 rfl) ?_
                        refine lv_goto (tgt := 88) zx zb dX11_cheapest_83 (by decide) ?_
                        exact fin _ _ (nI f) (V, u_71) 88 _ dX11_cheapest_88 (fun h => by cases h) (by have e1 : chX C tr Y q j f = x1 := firstN_eq hs (Or.inl ⟨show x1 < C.1 by omega, c_74⟩); have e2 : chF C tr Y q j = f := firstN_eq hp (Or.inl ⟨by omega, decide_eq_true (by rw [e1]; show x1 < C.1; omega)⟩); exact ch_hit (by unfold chOk; rw [c_5, c_15, c_24]; rfl) (by omega) e1 e2 (by omega) (by first | exact Or.inl ⟨c_78, rfl⟩ | exact Or.inr ⟨c_78, rfl⟩)) hP hD hS
              exact L49 _ 0 Q (by omega) (lt_0) (Nat.lt_succ_self _) _ _ hP hD hS _ (lv_sub hl [1, 2, 3, 4, 5, 0] rfl)
        exact L39 _ 0 Z (by omega) (lt_0) (Nat.lt_succ_self _) _ _ hP hD hS _ (lv_sub hl [1, 2, 3, 4, 0] rfl)
      · have c_24 : (wi w 0 1) = false := bI_0.mp c_24
        refine lv_aload_n zx zb dX11_cheapest_27 rfl (lv_at hl 0 rfl) ?_
        refine lv_bipush (v := (-2)) zx zb dX11_cheapest_28 (by decide) ?_
        refine lv_bipush (v := (-10)) zx zb dX11_cheapest_30 (by decide) ?_
        refine call_Vi (As := [.int (-2), .int (-10)]) (rest := []) XX cv_X11_79 (c_X11_refused Γ l t s x V (-2) (-10) ) hP hD hS hA [0] (by decide) rfl (fun _ => rfl) 0 0 rfl rfl rfl rfl hl.1 rfl ⟨⟨by decide, by decide⟩, by decide, by decide⟩ (Nat.le_of_ble_eq_true rfl) dX11_cheapest_32 (fun r_32 u H locs hw hP hD hS => ?_)
        obtain ⟨hw1, hw2⟩ := hw
        have hw1 := hw1.symm
        have hw2 := hw2.symm
        subst hw1
        subst hw2
        have hP : bP Γ [bTT Γ t s x (ttRef V (-2)), bSt Γ s c y p pc, bCo Γ c k C, bTs Γ c k tr, bKd Γ k, bYr Γ y Y, bSt Γ x d z p2 pc2, bYr Γ z Z] H := hP
        have hD : bD AA [bTT Γ t s x (ttRef V (-2)), bSt Γ s c y p pc, bCo Γ c k C, bTs Γ c k tr, bKd Γ k, bYr Γ y Y, bSt Γ x d z p2 pc2, bYr Γ z Z] := hD
        exact fin _ _ (-10) ((ttRef V (-2)), Z) 35 _ dX11_cheapest_35 (fun h => by cases h) (⟨by simp [chR, chOk, c_5, c_15, c_24], by simp only [stV, chOk, c_5, c_15, c_24, ttRef_b, Bool.false_and, Bool.and_false]; rfl⟩) hP hD hS

set_option maxHeartbeats 4000000 in
set_option maxRecDepth 100000 in
theorem c_X11_vote (Γ : GG) (l : Launch) (t : Nat → Nat) (s : Nat → Nat) (x : Nat → Nat) (V : V3) (c : Nat → Nat) (k : Nat → Nat) (y : Nat → Nat) (p : Nat → Nat → Nat) (pc : Nat) (C : CoV) (tr : Nat → TrV) (Y : YrV) (d : Nat → Nat) (z : Nat → Nat) (p2 : Nat → Nat → Nat) (pc2 : Nat) (Z : YrV) (a : Int32) (b : Int32) (w : Int32) (hn : C.1 ≤ 8) (htc : C.2.2.2.2.2.2.1 ≤ 6) (hkd : ∀ i, i < 6 → (tr i).1 < 6) : Ci Γ l yX11_vote cX11_vote 8 (some (.int)) 5 114 0 0 [.ref (t 0), .int a, .int b, .int w] [bTT Γ t s x V, bSt Γ s c y p pc, bCo Γ c k C, bTs Γ c k tr, bKd Γ k, bYr Γ y Y, bSt Γ x d z p2 pc2, bYr Γ z Z] (fun (r : Int32) (u : V3 × YrV) => r = voR C tr Y a b w ∧ u.1 = stV V (voOk a b w)) (fun (u : V3 × YrV) => [bTT Γ t s x u.1, bSt Γ s c y p pc, bCo Γ c k C, bTs Γ c k tr, bKd Γ k, bYr Γ y Y, bSt Γ x d z p2 pc2, bYr Γ z u.2]) := by
  refine Ci.of (Or.inl rfl) (by decide) (Nat.le_of_ble_eq_true rfl) ?_
  intro pp ee ss mm bb me cd AA QQ XX hnm hA hP hD fin ls hl
  obtain ⟨zx, zb, hml, hown, hts, hK⟩ := id XX
  have hS : va_S AA ss.heap ss.heap [] := va_S.rf
  have hl : lv_has ls 8 [(0, .ref (t 0)), (1, .int a), (2, .int b), (3, .int w)] := hl
  refine lv_iload_n zx zb dX11_vote_0 rfl (lv_at hl 1 rfl) ?_
  refine lv_iconst (v := nI 1) zx zb dX11_vote_1 (by decide) ?_
  refine lv_bipush (v := nI 12) zx zb dX11_vote_2 (by decide) ?_
  refine callR_Si (As := [.int a, .int (nI 1), .int (nI 12)]) (rest := []) XX cs_X11_75 (c_X11_within Γ l a 1 12 ) hP hD hS hA nil_mem nil_D rfl hl.1 rfl ⟨⟨by decide, by decide⟩, by decide, by decide⟩ (Nat.le_of_ble_eq_true rfl) dX11_vote_4 (fun r_4 H locs hw hP hS => ?_)
  have hw := hw.symm
  subst hw
  refine lv_if_eq (tgt := 29) zx zb dX11_vote_7 (by decide) (fun c_7 => ?_) (fun c_7 => ?_)
  · have c_7 : (wi a 1 12) = false := bI_0.mp c_7
    refine lv_aload_n zx zb dX11_vote_29 rfl (lv_at hl 0 rfl) ?_
    refine lv_bipush (v := (-2)) zx zb dX11_vote_30 (by decide) ?_
    refine lv_bipush (v := (-2)) zx zb dX11_vote_32 (by decide) ?_
    refine call_Vi (As := [.int (-2), .int (-2)]) (rest := []) XX cv_X11_79 (c_X11_refused Γ l t s x V (-2) (-2) ) hP hD hS hA [0] (by decide) rfl (fun _ => rfl) 0 0 rfl rfl rfl rfl hl.1 rfl ⟨⟨by decide, by decide⟩, by decide, by decide⟩ (Nat.le_of_ble_eq_true rfl) dX11_vote_34 (fun r_34 u H locs hw hP hD hS => ?_)
    obtain ⟨hw1, hw2⟩ := hw
    have hw1 := hw1.symm
    have hw2 := hw2.symm
    subst hw1
    subst hw2
    have hP : bP Γ [bTT Γ t s x (ttRef V (-2)), bSt Γ s c y p pc, bCo Γ c k C, bTs Γ c k tr, bKd Γ k, bYr Γ y Y, bSt Γ x d z p2 pc2, bYr Γ z Z] H := hP
    have hD : bD AA [bTT Γ t s x (ttRef V (-2)), bSt Γ s c y p pc, bCo Γ c k C, bTs Γ c k tr, bKd Γ k, bYr Γ y Y, bSt Γ x d z p2 pc2, bYr Γ z Z] := hD
    exact fin _ _ (-2) ((ttRef V (-2)), Z) 37 _ dX11_vote_37 (fun h => by cases h) (⟨by simp [voR, voOk, c_7], by simp only [stV, voOk, c_7, ttRef_b, Bool.false_and, Bool.and_false]; rfl⟩) hP hD hS
  · have c_7 : (wi a 1 12) = true := bI_ne c_7
    refine lv_iload_n zx zb dX11_vote_10 rfl (lv_at hl 2 rfl) ?_
    refine lv_iconst (v := nI 0) zx zb dX11_vote_11 (by decide) ?_
    refine lv_bipush (v := nI 12) zx zb dX11_vote_12 (by decide) ?_
    refine callR_Si (As := [.int b, .int (nI 0), .int (nI 12)]) (rest := []) XX cs_X11_75 (c_X11_within Γ l b 0 12 ) hP hD hS hA nil_mem nil_D rfl hl.1 rfl ⟨⟨by decide, by decide⟩, by decide, by decide⟩ (Nat.le_of_ble_eq_true rfl) dX11_vote_14 (fun r_14 H locs hw hP hS => ?_)
    have hw := hw.symm
    subst hw
    refine lv_if_eq (tgt := 29) zx zb dX11_vote_17 (by decide) (fun c_17 => ?_) (fun c_17 => ?_)
    · have c_17 : (wi b 0 12) = false := bI_0.mp c_17
      refine lv_aload_n zx zb dX11_vote_29 rfl (lv_at hl 0 rfl) ?_
      refine lv_bipush (v := (-2)) zx zb dX11_vote_30 (by decide) ?_
      refine lv_bipush (v := (-2)) zx zb dX11_vote_32 (by decide) ?_
      refine call_Vi (As := [.int (-2), .int (-2)]) (rest := []) XX cv_X11_79 (c_X11_refused Γ l t s x V (-2) (-2) ) hP hD hS hA [0] (by decide) rfl (fun _ => rfl) 0 0 rfl rfl rfl rfl hl.1 rfl ⟨⟨by decide, by decide⟩, by decide, by decide⟩ (Nat.le_of_ble_eq_true rfl) dX11_vote_34 (fun r_34 u H locs hw hP hD hS => ?_)
      obtain ⟨hw1, hw2⟩ := hw
      have hw1 := hw1.symm
      have hw2 := hw2.symm
      subst hw1
      subst hw2
      have hP : bP Γ [bTT Γ t s x (ttRef V (-2)), bSt Γ s c y p pc, bCo Γ c k C, bTs Γ c k tr, bKd Γ k, bYr Γ y Y, bSt Γ x d z p2 pc2, bYr Γ z Z] H := hP
      have hD : bD AA [bTT Γ t s x (ttRef V (-2)), bSt Γ s c y p pc, bCo Γ c k C, bTs Γ c k tr, bKd Γ k, bYr Γ y Y, bSt Γ x d z p2 pc2, bYr Γ z Z] := hD
      exact fin _ _ (-2) ((ttRef V (-2)), Z) 37 _ dX11_vote_37 (fun h => by cases h) (⟨by simp [voR, voOk, c_7, c_17], by simp only [stV, voOk, c_7, c_17, ttRef_b, Bool.false_and, Bool.and_false]; rfl⟩) hP hD hS
    · have c_17 : (wi b 0 12) = true := bI_ne c_17
      refine lv_iload_n zx zb dX11_vote_20 rfl (lv_at hl 3 rfl) ?_
      refine lv_iconst (v := nI 0) zx zb dX11_vote_21 (by decide) ?_
      refine lv_iconst (v := nI 1) zx zb dX11_vote_22 (by decide) ?_
      refine callR_Si (As := [.int w, .int (nI 0), .int (nI 1)]) (rest := []) XX cs_X11_75 (c_X11_within Γ l w 0 1 ) hP hD hS hA nil_mem nil_D rfl hl.1 rfl ⟨⟨by decide, by decide⟩, by decide, by decide⟩ (Nat.le_of_ble_eq_true rfl) dX11_vote_23 (fun r_23 H locs hw hP hS => ?_)
      have hw := hw.symm
      subst hw
      refine lv_if_ne (tgt := 38) zx zb dX11_vote_26 (by decide) (fun c_26 => ?_) (fun c_26 => ?_)
      · have c_26 : (wi w 0 1) = true := bI_ne c_26
        obtain ⟨j, hj, rfl⟩ := wi_nat 1 12 c_7 rfl rfl (by decide)
        refine lv_aload_n zx zb dX11_vote_38 rfl (lv_at hl 0 rfl) ?_
        refine g_get (v := .ref (x 0)) XX hP 0 0 rfl rfl rfl iwX11 1 (by decide) fl_X11_36 rfl dX11_vote_39 ?_
        refine g_get (v := .ref (z 0)) XX hP 6 0 rfl rfl rfl iwX8 1 (by decide) fl_X11_82 rfl dX11_vote_42 ?_
        refine lv_aload_n zx zb dX11_vote_45 rfl (lv_at hl 0 rfl) ?_
        refine g_get (v := .ref (s 0)) XX hP 0 0 rfl rfl rfl iwX11 0 (by decide) fl_X11_30 rfl dX11_vote_46 ?_
        refine g_get (v := .ref (y 0)) XX hP 1 0 rfl rfl rfl iwX8 1 (by decide) fl_X11_82 rfl dX11_vote_49 ?_
        refine call_Vv (As := [.ref (y 0)]) (rest := []) XX cv_X11_142 (c_X10_copyOf Γ l z Z y Y ) hP hD hS hA [7, 5] (by decide) rfl (fun _ => rfl) 7 0 rfl rfl rfl rfl hl.1 rfl ⟨⟨by decide, by decide⟩, by decide, by decide⟩ (Nat.le_of_ble_eq_true rfl) dX11_vote_52 (fun u H locs hw hP hD hS => ?_)
        have hw := hw.symm
        subst hw
        have hP : bP Γ [bTT Γ t s x V, bSt Γ s c y p pc, bCo Γ c k C, bTs Γ c k tr, bKd Γ k, bYr Γ y Y, bSt Γ x d z p2 pc2, bYr Γ z Y] H := hP
        have hD : bD AA [bTT Γ t s x V, bSt Γ s c y p pc, bCo Γ c k C, bTs Γ c k tr, bKd Γ k, bYr Γ y Y, bSt Γ x d z p2 pc2, bYr Γ z Y] := hD
        refine lv_iconst (v := nI 0) zx zb dX11_vote_55 (by decide) ?_
        refine lv_istore (lv' := [(4, .int (nI 0)), (0, .ref (t 0)), (1, .int (nI j)), (2, .int b), (3, .int w)]) zx zb dX11_vote_56 hl (by decide) rfl (fun ls hl => ?_)
        have L58 : ∀ (nn : Nat) (i : Nat) (Q : YrV), (i ≤ j) → (Q = runM C tr Y i) → j - i < nn → ∀ (H : Heap) (locs : List Loc), bP Γ [bTT Γ t s x V, bSt Γ s c y p pc, bCo Γ c k C, bTs Γ c k tr, bKd Γ k, bYr Γ y Y, bSt Γ x d z p2 pc2, bYr Γ z Q] H → bD AA [bTT Γ t s x V, bSt Γ s c y p pc, bCo Γ c k C, bTs Γ c k tr, bKd Γ k, bYr Γ y Y, bSt Γ x d z p2 pc2, bYr Γ z Q] → va_S AA ss.heap H locs → ∀ (ls : Array Slot), lv_has ls 8 [(0, .ref (t 0)), (1, .int (nI j)), (2, .int b), (3, .int w), (4, .int (nI i))] → W pp l ee { frames := 5, cells := 0, slots := 0, locals := 114 } ss mm [.ref (t 0), .int (nI j), .int b, .int w].toArray bb me cd H locs 0 0 QQ (F0 mm 58 ls []) := by
          intro nn
          induction nn with
          | zero => intro i Q hi hQ hm; exact absurd hm (Nat.not_lt_zero _)
          | succ nn ih58 =>
            intro i Q hi hQ hm58 H locs hP hD hS ls hl
            refine lv_iload zx zb dX11_vote_58 (lv_at hl 4 rfl) ?_
            refine lv_iload_n zx zb dX11_vote_60 rfl (lv_at hl 1 rfl) ?_
            refine lv_icmp_ge (tgt := 82) zx zb dX11_vote_61 (by decide) (fun c_61 => ?_) (fun c_61 => ?_)
            · have c_61 : j ≤ i := (nI_leI (a := j) (b := i) (by omega) (by omega)).mp c_61
              refine lv_iconst (v := nI 0) zx zb dX11_vote_82 (by decide) ?_
              refine lv_istore (lv' := [(4, .int (nI 0)), (0, .ref (t 0)), (1, .int (nI j)), (2, .int b), (3, .int w)]) zx zb dX11_vote_83 hl (by decide) rfl (fun ls hl => ?_)
              refine lv_iconst (v := nI 0) zx zb dX11_vote_85 (by decide) ?_
              refine lv_istore (lv' := [(5, .int (nI 0)), (4, .int (nI 0)), (0, .ref (t 0)), (1, .int (nI j)), (2, .int b), (3, .int w)]) zx zb dX11_vote_86 hl (by decide) rfl (fun ls hl => ?_)
              refine lv_iconst (v := nI 0) zx zb dX11_vote_88 (by decide) ?_
              refine lv_istore (lv' := [(6, .int (nI 0)), (5, .int (nI 0)), (4, .int (nI 0)), (0, .ref (t 0)), (1, .int (nI j)), (2, .int b), (3, .int w)]) zx zb dX11_vote_89 hl (by decide) rfl (fun ls hl => ?_)
              have L91 : ∀ (nn : Nat) (x1 : Nat) (f : Int32) (g : Int32), (x1 ≤ C.1) → ((f, g) = voS C Y Q b x1) → C.1 - x1 < nn → ∀ (H : Heap) (locs : List Loc), bP Γ [bTT Γ t s x V, bSt Γ s c y p pc, bCo Γ c k C, bTs Γ c k tr, bKd Γ k, bYr Γ y Y, bSt Γ x d z p2 pc2, bYr Γ z Q] H → bD AA [bTT Γ t s x V, bSt Γ s c y p pc, bCo Γ c k C, bTs Γ c k tr, bKd Γ k, bYr Γ y Y, bSt Γ x d z p2 pc2, bYr Γ z Q] → va_S AA ss.heap H locs → ∀ (ls : Array Slot), lv_has ls 8 [(0, .ref (t 0)), (2, .int b), (3, .int w), (4, .int f), (5, .int g), (6, .int (nI x1))] → W pp l ee { frames := 5, cells := 0, slots := 0, locals := 114 } ss mm [.ref (t 0), .int (nI j), .int b, .int w].toArray bb me cd H locs 0 0 QQ (F0 mm 91 ls []) := by
                intro nn
                induction nn with
                | zero => intro x1 f g hx hv hm; exact absurd hm (Nat.not_lt_zero _)
                | succ nn ih91 =>
                  intro x1 f g hx hv hm91 H locs hP hD hS ls hl
                  refine lv_iload zx zb dX11_vote_91 (lv_at hl 5 rfl) ?_
                  refine lv_aload_n zx zb dX11_vote_93 rfl (lv_at hl 0 rfl) ?_
                  refine g_get (v := .ref (s 0)) XX hP 0 0 rfl rfl rfl iwX11 0 (by decide) fl_X11_30 rfl dX11_vote_94 ?_
                  refine g_get (v := .ref (c 0)) XX hP 1 0 rfl rfl rfl iwX8 0 (by decide) fl_X11_100 rfl dX11_vote_97 ?_
                  refine g_get (v := .int (nI (C.1))) XX hP 2 0 rfl rfl rfl iwX2 1 (by decide) fl_X11_230 rfl dX11_vote_100 ?_
                  refine lv_icmp_ge (tgt := 196) zx zb dX11_vote_103 (by decide) (fun c_103 => ?_) (fun c_103 => ?_)
                  · have c_103 : C.1 ≤ x1 := (nI_leI (a := C.1) (b := x1) (by omega) (by omega)).mp c_103
                    refine lv_iload_n zx zb dX11_vote_196 rfl (lv_at hl 2 rfl) ?_
                    refine lv_if_ne (tgt := 205) zx zb dX11_vote_197 (by decide) (fun c_197 => ?_) (fun c_197 => ?_)
                    · have c_197 : ¬ (w = (0 : Int32)) := c_197
                      refine lv_iload zx zb dX11_vote_205 (lv_at hl 4 rfl) ?_
                      exact fin _ _ g (V, Q) 207 _ dX11_vote_207 (fun h => by cases h) (by have e : x1 = C.1 := (by omega); subst e; have e2 : i = j := (by omega); subst e2; subst hQ; exact ⟨vo_end (by unfold voOk; rw [c_7, c_17, c_26]; rfl) (by omega) hv (by first | exact Or.inl ⟨c_197, rfl⟩ | exact Or.inr ⟨c_197, rfl⟩), by unfold voOk; rw [c_7, c_17, c_26]; rfl⟩) hP hD hS
                    · have c_197 : w = (0 : Int32) := c_197
                      refine lv_iload zx zb dX11_vote_200 (lv_at hl 3 rfl) ?_
                      refine lv_goto (tgt := 207) zx zb dX11_vote_202 (by decide) ?_
                      exact fin _ _ f (V, Q) 207 _ dX11_vote_207 (fun h => by cases h) (by have e : x1 = C.1 := (by omega); subst e; have e2 : i = j := (by omega); subst e2; subst hQ; exact ⟨vo_end (by unfold voOk; rw [c_7, c_17, c_26]; rfl) (by omega) hv (by first | exact Or.inl ⟨c_197, rfl⟩ | exact Or.inr ⟨c_197, rfl⟩), by unfold voOk; rw [c_7, c_17, c_26]; rfl⟩) hP hD hS
                  · have c_103 : ¬ (C.1 ≤ x1) := fun h => c_103 ((nI_leI (a := C.1) (b := x1) (by omega) (by omega)).mpr h)
                    refine lv_aload_n zx zb dX11_vote_106 rfl (lv_at hl 0 rfl) ?_
                    refine g_get (v := .ref (s 0)) XX hP 0 0 rfl rfl rfl iwX11 0 (by decide) fl_X11_30 rfl dX11_vote_107 ?_
                    refine g_get (v := .ref (y 0)) XX hP 1 0 rfl rfl rfl iwX8 1 (by decide) fl_X11_82 rfl dX11_vote_110 ?_
                    refine lv_iload zx zb dX11_vote_113 (lv_at hl 5 rfl) ?_
                    refine call_Vi (As := [.int (nI x1)]) (rest := []) XX cv_X11_177 (c_X10_isLost Γ l y Y x1 (by omega)) hP hD hS hA [5] (by decide) rfl (fun _ => rfl) 5 0 rfl rfl rfl rfl hl.1 rfl ⟨⟨by decide, by decide⟩, by decide, by decide⟩ (Nat.le_of_ble_eq_true rfl) dX11_vote_115 (fun r_115 u H locs hw hP hD hS => ?_)
                    have hw := hw.symm
                    subst hw
                    have hP : bP Γ [bTT Γ t s x V, bSt Γ s c y p pc, bCo Γ c k C, bTs Γ c k tr, bKd Γ k, bYr Γ y Y, bSt Γ x d z p2 pc2, bYr Γ z Q] H := hP
                    have hD : bD AA [bTT Γ t s x V, bSt Γ s c y p pc, bCo Γ c k C, bTs Γ c k tr, bKd Γ k, bYr Γ y Y, bSt Γ x d z p2 pc2, bYr Γ z Q] := hD
                    refine lv_if_eq (tgt := 124) zx zb dX11_vote_118 (by decide) (fun c_118 => ?_) (fun c_118 => ?_)
                    · have c_118 : (yrLost Y x1) = false := bI_0.mp c_118
                      refine lv_aload_n zx zb dX11_vote_124 rfl (lv_at hl 0 rfl) ?_
                      refine g_get (v := .ref (s 0)) XX hP 0 0 rfl rfl rfl iwX11 0 (by decide) fl_X11_30 rfl dX11_vote_125 ?_
                      refine g_get (v := .ref (c 0)) XX hP 1 0 rfl rfl rfl iwX8 0 (by decide) fl_X11_100 rfl dX11_vote_128 ?_
                      refine g_get (v := .ref (c 2)) XX hP 2 0 rfl rfl rfl iwX2 4 (by decide) fl_X11_165 rfl dX11_vote_131 ?_
                      refine lv_iload zx zb dX11_vote_134 (lv_at hl 5 rfl) ?_
                      refine g_ialdN (i := x1) XX hP 2 2 rfl rfl (by omega) (by decide) dX11_vote_136 ?_
                      refine lv_bipush (v := nI 10) zx zb dX11_vote_137 (by decide) ?_
                      refine lv_idiv zx zb dX11_vote_139 (by decide) ?_
                      refine g_top (y := (C.2.2.2.1 x1) / 10) rfl ?_
                      refine lv_istore (lv' := [(7, .int ((C.2.2.2.1 x1) / 10)), (0, .ref (t 0)), (2, .int b), (3, .int w), (4, .int f), (5, .int g), (6, .int (nI x1))]) zx zb dX11_vote_140 hl (by decide) rfl (fun ls hl => ?_)
                      refine lv_aload_n zx zb dX11_vote_142 rfl (lv_at hl 1 rfl) ?_
                      refine g_get (v := .ref (x 0)) XX hP 0 0 rfl rfl rfl iwX11 1 (by decide) fl_X11_36 rfl dX11_vote_143 ?_
                      refine g_get (v := .ref (z 0)) XX hP 6 0 rfl rfl rfl iwX8 1 (by decide) fl_X11_82 rfl dX11_vote_146 ?_
                      refine g_get (v := .ref (z 2)) XX hP 7 0 rfl rfl rfl iwX10 4 (by decide) fl_X11_174 rfl dX11_vote_149 ?_
                      refine lv_iload zx zb dX11_vote_152 (lv_at hl 6 rfl) ?_
                      refine g_ialdN (i := x1) XX hP 7 2 rfl rfl (by omega) (by decide) dX11_vote_154 ?_
                      refine lv_aload_n zx zb dX11_vote_155 rfl (lv_at hl 1 rfl) ?_
                      refine g_get (v := .ref (s 0)) XX hP 0 0 rfl rfl rfl iwX11 0 (by decide) fl_X11_30 rfl dX11_vote_156 ?_
                      refine g_get (v := .ref (y 0)) XX hP 1 0 rfl rfl rfl iwX8 1 (by decide) fl_X11_82 rfl dX11_vote_159 ?_
                      refine g_get (v := .ref (y 2)) XX hP 5 0 rfl rfl rfl iwX10 4 (by decide) fl_X11_174 rfl dX11_vote_162 ?_
                      refine lv_iload zx zb dX11_vote_165 (lv_at hl 6 rfl) ?_
                      refine g_ialdN (i := x1) XX hP 5 2 rfl rfl (by omega) (by decide) dX11_vote_167 ?_
                      refine lv_isub zx zb dX11_vote_168 ?_
                      refine lv_iload_n zx zb dX11_vote_169 rfl (lv_at hl 2 rfl) ?_
                      refine lv_icmp_le (tgt := 183) zx zb dX11_vote_170 (by decide) (fun c_170 => ?_) (fun c_170 => ?_)
                      · have c_170 : ((Q.2.2.2.2 x1) - (Y.2.2.2.2 x1)) ≤ b := c_170
                        refine lv_iload zx zb dX11_vote_183 (lv_at hl 5 rfl) ?_
                        refine lv_iload zx zb dX11_vote_185 (lv_at hl 0 rfl) ?_
                        refine lv_iadd zx zb dX11_vote_187 ?_
                        refine lv_istore (lv' := [(5, .int (g + ((C.2.2.2.1 x1) / 10))), (7, .int ((C.2.2.2.1 x1) / 10)), (0, .ref (t 0)), (2, .int b), (3, .int w), (4, .int f), (6, .int (nI x1))]) zx zb dX11_vote_188 hl (by decide) rfl (fun ls hl => ?_)
                        refine lv_iinc (v := nI (x1 + 1)) (lv' := [(6, .int (nI (x1 + 1))), (5, .int (g + ((C.2.2.2.1 x1) / 10))), (7, .int ((C.2.2.2.1 x1) / 10)), (0, .ref (t 0)), (2, .int b), (3, .int w), (4, .int f)]) zx zb dX11_vote_190 hl (k := 6) rfl (nI_inc _ 1) (by decide) rfl (fun ls hl => ?_)
                        refine lv_goto (tgt := 91) zx zb dX11_vote_193 (by decide) ?_
                        exact ih91 (x1 + 1) f (g + ((C.2.2.2.1 x1) / 10)) (by omega) (by first | exact vo_l hv c_118 | exact vo_s hv c_118 c_170 | exact vo_g hv c_118 c_170) (by omega) _ _ hP hD hS _ (lv_sub hl [3, 4, 5, 6, 1, 0] rfl)
                      · have c_170 : ¬ (((Q.2.2.2.2 x1) - (Y.2.2.2.2 x1)) ≤ b) := c_170
                        refine lv_iload zx zb dX11_vote_173 (lv_at hl 4 rfl) ?_
                        refine lv_iload zx zb dX11_vote_175 (lv_at hl 0 rfl) ?_
                        refine lv_iadd zx zb dX11_vote_177 ?_
                        refine lv_istore (lv' := [(4, .int (f + ((C.2.2.2.1 x1) / 10))), (7, .int ((C.2.2.2.1 x1) / 10)), (0, .ref (t 0)), (2, .int b), (3, .int w), (5, .int g), (6, .int (nI x1))]) zx zb dX11_vote_178 hl (by decide) rfl (fun ls hl => ?_)
                        refine lv_goto (tgt := 190) zx zb dX11_vote_180 (by decide) ?_
                        refine lv_iinc (v := nI (x1 + 1)) (lv' := [(6, .int (nI (x1 + 1))), (4, .int (f + ((C.2.2.2.1 x1) / 10))), (7, .int ((C.2.2.2.1 x1) / 10)), (0, .ref (t 0)), (2, .int b), (3, .int w), (5, .int g)]) zx zb dX11_vote_190 hl (k := 6) rfl (nI_inc _ 1) (by decide) rfl (fun ls hl => ?_)
                        refine lv_goto (tgt := 91) zx zb dX11_vote_193 (by decide) ?_
                        exact ih91 (x1 + 1) (f + ((C.2.2.2.1 x1) / 10)) g (by omega) (by first | exact vo_l hv c_118 | exact vo_s hv c_118 c_170 | exact vo_g hv c_118 c_170) (by omega) _ _ hP hD hS _ (lv_sub hl [3, 4, 5, 1, 6, 0] rfl)
                    · have c_118 : (yrLost Y x1) = true := bI_ne c_118
                      refine lv_goto (tgt := 190) zx zb dX11_vote_121 (by decide) ?_
                      refine lv_iinc (v := nI (x1 + 1)) (lv' := [(6, .int (nI (x1 + 1))), (0, .ref (t 0)), (2, .int b), (3, .int w), (4, .int f), (5, .int g)]) zx zb dX11_vote_190 hl (k := 5) rfl (nI_inc _ 1) (by decide) rfl (fun ls hl => ?_)
                      refine lv_goto (tgt := 91) zx zb dX11_vote_193 (by decide) ?_
                      exact ih91 (x1 + 1) f g (by omega) (by first | exact vo_l hv c_118 | exact vo_s hv c_118 c_170 | exact vo_g hv c_118 c_170) (by omega) _ _ hP hD hS _ (lv_sub hl [1, 2, 3, 4, 5, 0] rfl)
              exact L91 _ 0 0 0 (by omega) (rfl) (Nat.lt_succ_self _) _ _ hP hD hS _ (lv_sub hl [3, 5, 6, 2, 1, 0] rfl)
            · have c_61 : ¬ (j ≤ i) := fun h => c_61 ((nI_leI (a := j) (b := i) (by omega) (by omega)).mpr h)
              refine lv_aload_n zx zb dX11_vote_64 rfl (lv_at hl 0 rfl) ?_
              refine lv_aload_n zx zb dX11_vote_65 rfl (lv_at hl 0 rfl) ?_
              refine g_get (v := .ref (s 0)) XX hP 0 0 rfl rfl rfl iwX11 0 (by decide) fl_X11_30 rfl dX11_vote_66 ?_
              refine g_get (v := .ref (c 0)) XX hP 1 0 rfl rfl rfl iwX8 0 (by decide) fl_X11_100 rfl dX11_vote_69 ?_
              refine call_Vi (As := [.ref (c 0)]) (rest := []) XX cv_X11_206 (c_X11_runAhead Γ l t s x V c k C tr d z p2 pc2 Q (hn) (htc) (hkd)) hP hD hS hA [0, 6, 2, 3, 4, 7] (by decide) rfl (fun _ => rfl) 0 0 rfl rfl rfl rfl hl.1 rfl ⟨⟨by decide, by decide⟩, by decide, by decide⟩ (Nat.le_of_ble_eq_true rfl) dX11_vote_72 (fun r_72 u H locs hw hP hD hS => ?_)
              obtain ⟨hw1, hw2⟩ := hw
              have hw1 := hw1.symm
              have hw2 := hw2.symm
              subst hw1
              subst hw2
              have hP : bP Γ [bTT Γ t s x V, bSt Γ s c y p pc, bCo Γ c k C, bTs Γ c k tr, bKd Γ k, bYr Γ y Y, bSt Γ x d z p2 pc2, bYr Γ z (coNext C tr Q)] H := hP
              have hD : bD AA [bTT Γ t s x V, bSt Γ s c y p pc, bCo Γ c k C, bTs Γ c k tr, bKd Γ k, bYr Γ y Y, bSt Γ x d z p2 pc2, bYr Γ z (coNext C tr Q)] := hD
              refine lv_pop zx zb dX11_vote_75 rfl ?_
              refine lv_iinc (v := nI (i + 1)) (lv' := [(4, .int (nI (i + 1))), (0, .ref (t 0)), (1, .int (nI j)), (2, .int b), (3, .int w)]) zx zb dX11_vote_76 hl (k := 4) rfl (nI_inc _ 1) (by decide) rfl (fun ls hl => ?_)
              refine lv_goto (tgt := 58) zx zb dX11_vote_79 (by decide) ?_
              exact ih58 (i + 1) (coNext C tr Q) (by omega) (by rw [runM, ← hQ]) (by omega) _ _ hP hD hS _ (lv_sub hl [1, 2, 3, 4, 0] rfl)
        exact L58 _ 0 Y (by omega) (rfl) (Nat.lt_succ_self _) _ _ hP hD hS _ (lv_sub hl [1, 2, 3, 4, 0] rfl)
      · have c_26 : (wi w 0 1) = false := bI_0.mp c_26
        refine lv_aload_n zx zb dX11_vote_29 rfl (lv_at hl 0 rfl) ?_
        refine lv_bipush (v := (-2)) zx zb dX11_vote_30 (by decide) ?_
        refine lv_bipush (v := (-2)) zx zb dX11_vote_32 (by decide) ?_
        refine call_Vi (As := [.int (-2), .int (-2)]) (rest := []) XX cv_X11_79 (c_X11_refused Γ l t s x V (-2) (-2) ) hP hD hS hA [0] (by decide) rfl (fun _ => rfl) 0 0 rfl rfl rfl rfl hl.1 rfl ⟨⟨by decide, by decide⟩, by decide, by decide⟩ (Nat.le_of_ble_eq_true rfl) dX11_vote_34 (fun r_34 u H locs hw hP hD hS => ?_)
        obtain ⟨hw1, hw2⟩ := hw
        have hw1 := hw1.symm
        have hw2 := hw2.symm
        subst hw1
        subst hw2
        have hP : bP Γ [bTT Γ t s x (ttRef V (-2)), bSt Γ s c y p pc, bCo Γ c k C, bTs Γ c k tr, bKd Γ k, bYr Γ y Y, bSt Γ x d z p2 pc2, bYr Γ z Z] H := hP
        have hD : bD AA [bTT Γ t s x (ttRef V (-2)), bSt Γ s c y p pc, bCo Γ c k C, bTs Γ c k tr, bKd Γ k, bYr Γ y Y, bSt Γ x d z p2 pc2, bYr Γ z Z] := hD
        exact fin _ _ (-2) ((ttRef V (-2)), Z) 37 _ dX11_vote_37 (fun h => by cases h) (⟨by simp [voR, voOk, c_7, c_17, c_26], by simp only [stV, voOk, c_7, c_17, c_26, ttRef_b, Bool.false_and, Bool.and_false]; rfl⟩) hP hD hS

set_option maxHeartbeats 4000000 in
set_option maxRecDepth 100000 in
theorem c_X11_drawn (Γ : GG) (l : Launch) (t : Nat → Nat) (s : Nat → Nat) (x : Nat → Nat) (V : V3) (c : Nat → Nat) (k : Nat → Nat) (y : Nat → Nat) (p : Nat → Nat → Nat) (pc : Nat) (C : CoV) (tr : Nat → TrV) (Y : YrV) (d : Nat → Nat) (z : Nat → Nat) (p2 : Nat → Nat → Nat) (pc2 : Nat) (Z : YrV) (a : Int32) (q : Int32) (w : Int32) (hn : C.1 ≤ 8) (htc : C.2.2.2.2.2.2.1 ≤ 6) (hkd : ∀ i, i < 6 → (tr i).1 < 6) : Ci Γ l yX11_drawn cX11_drawn 9 (some (.int)) 4 93 0 0 [.ref (t 0), .int a, .int q, .int w] [bTT Γ t s x V, bSt Γ s c y p pc, bCo Γ c k C, bTs Γ c k tr, bKd Γ k, bYr Γ y Y, bSt Γ x d z p2 pc2, bYr Γ z Z] (fun (r : Int32) (u : V3 × YrV) => r = dwR C tr Y a q w ∧ u.1 = stV V (dwOk a q w)) (fun (u : V3 × YrV) => [bTT Γ t s x u.1, bSt Γ s c y p pc, bCo Γ c k C, bTs Γ c k tr, bKd Γ k, bYr Γ y Y, bSt Γ x d z p2 pc2, bYr Γ z u.2]) := by
  refine Ci.of (Or.inl rfl) (by decide) (Nat.le_of_ble_eq_true rfl) ?_
  intro pp ee ss mm bb me cd AA QQ XX hnm hA hP hD fin ls hl
  obtain ⟨zx, zb, hml, hown, hts, hK⟩ := id XX
  have hS : va_S AA ss.heap ss.heap [] := va_S.rf
  have hl : lv_has ls 9 [(0, .ref (t 0)), (1, .int a), (2, .int q), (3, .int w)] := hl
  refine lv_iload_n zx zb dX11_drawn_0 rfl (lv_at hl 1 rfl) ?_
  refine lv_iconst (v := nI 0) zx zb dX11_drawn_1 (by decide) ?_
  refine lv_bipush (v := nI 30) zx zb dX11_drawn_2 (by decide) ?_
  refine callR_Si (As := [.int a, .int (nI 0), .int (nI 30)]) (rest := []) XX cs_X11_75 (c_X11_within Γ l a 0 30 ) hP hD hS hA nil_mem nil_D rfl hl.1 rfl ⟨⟨by decide, by decide⟩, by decide, by decide⟩ (Nat.le_of_ble_eq_true rfl) dX11_drawn_4 (fun r_4 H locs hw hP hS => ?_)
  have hw := hw.symm
  subst hw
  refine lv_if_eq (tgt := 30) zx zb dX11_drawn_7 (by decide) (fun c_7 => ?_) (fun c_7 => ?_)
  · have c_7 : (wi a 0 30) = false := bI_0.mp c_7
    refine lv_aload_n zx zb dX11_drawn_30 rfl (lv_at hl 0 rfl) ?_
    refine lv_bipush (v := (-2)) zx zb dX11_drawn_31 (by decide) ?_
    refine lv_bipush (v := (-2)) zx zb dX11_drawn_33 (by decide) ?_
    refine call_Vi (As := [.int (-2), .int (-2)]) (rest := []) XX cv_X11_79 (c_X11_refused Γ l t s x V (-2) (-2) ) hP hD hS hA [0] (by decide) rfl (fun _ => rfl) 0 0 rfl rfl rfl rfl hl.1 rfl ⟨⟨by decide, by decide⟩, by decide, by decide⟩ (Nat.le_of_ble_eq_true rfl) dX11_drawn_35 (fun r_35 u H locs hw hP hD hS => ?_)
    obtain ⟨hw1, hw2⟩ := hw
    have hw1 := hw1.symm
    have hw2 := hw2.symm
    subst hw1
    subst hw2
    have hP : bP Γ [bTT Γ t s x (ttRef V (-2)), bSt Γ s c y p pc, bCo Γ c k C, bTs Γ c k tr, bKd Γ k, bYr Γ y Y, bSt Γ x d z p2 pc2, bYr Γ z Z] H := hP
    have hD : bD AA [bTT Γ t s x (ttRef V (-2)), bSt Γ s c y p pc, bCo Γ c k C, bTs Γ c k tr, bKd Γ k, bYr Γ y Y, bSt Γ x d z p2 pc2, bYr Γ z Z] := hD
    exact fin _ _ (-2) ((ttRef V (-2)), Z) 38 _ dX11_drawn_38 (fun h => by cases h) (⟨by simp [dwR, dwOk, c_7], by simp only [stV, dwOk, c_7, ttRef_b, Bool.false_and, Bool.and_false]; rfl⟩) hP hD hS
  · have c_7 : (wi a 0 30) = true := bI_ne c_7
    refine lv_iload_n zx zb dX11_drawn_10 rfl (lv_at hl 2 rfl) ?_
    refine lv_iconst (v := nI 0) zx zb dX11_drawn_11 (by decide) ?_
    refine lv_ldcw zx zb hown (hts _ kc_X11_273) dX11_drawn_12 ?_
    refine g_top (y := nI 999999) rfl ?_
    refine callR_Si (As := [.int q, .int (nI 0), .int (nI 999999)]) (rest := []) XX cs_X11_75 (c_X11_within Γ l q 0 999999 ) hP hD hS hA nil_mem nil_D rfl hl.1 rfl ⟨⟨by decide, by decide⟩, by decide, by decide⟩ (Nat.le_of_ble_eq_true rfl) dX11_drawn_15 (fun r_15 H locs hw hP hS => ?_)
    have hw := hw.symm
    subst hw
    refine lv_if_eq (tgt := 30) zx zb dX11_drawn_18 (by decide) (fun c_18 => ?_) (fun c_18 => ?_)
    · have c_18 : (wi q 0 999999) = false := bI_0.mp c_18
      refine lv_aload_n zx zb dX11_drawn_30 rfl (lv_at hl 0 rfl) ?_
      refine lv_bipush (v := (-2)) zx zb dX11_drawn_31 (by decide) ?_
      refine lv_bipush (v := (-2)) zx zb dX11_drawn_33 (by decide) ?_
      refine call_Vi (As := [.int (-2), .int (-2)]) (rest := []) XX cv_X11_79 (c_X11_refused Γ l t s x V (-2) (-2) ) hP hD hS hA [0] (by decide) rfl (fun _ => rfl) 0 0 rfl rfl rfl rfl hl.1 rfl ⟨⟨by decide, by decide⟩, by decide, by decide⟩ (Nat.le_of_ble_eq_true rfl) dX11_drawn_35 (fun r_35 u H locs hw hP hD hS => ?_)
      obtain ⟨hw1, hw2⟩ := hw
      have hw1 := hw1.symm
      have hw2 := hw2.symm
      subst hw1
      subst hw2
      have hP : bP Γ [bTT Γ t s x (ttRef V (-2)), bSt Γ s c y p pc, bCo Γ c k C, bTs Γ c k tr, bKd Γ k, bYr Γ y Y, bSt Γ x d z p2 pc2, bYr Γ z Z] H := hP
      have hD : bD AA [bTT Γ t s x (ttRef V (-2)), bSt Γ s c y p pc, bCo Γ c k C, bTs Γ c k tr, bKd Γ k, bYr Γ y Y, bSt Γ x d z p2 pc2, bYr Γ z Z] := hD
      exact fin _ _ (-2) ((ttRef V (-2)), Z) 38 _ dX11_drawn_38 (fun h => by cases h) (⟨by simp [dwR, dwOk, c_7, c_18], by simp only [stV, dwOk, c_7, c_18, ttRef_b, Bool.false_and, Bool.and_false]; rfl⟩) hP hD hS
    · have c_18 : (wi q 0 999999) = true := bI_ne c_18
      refine lv_iload_n zx zb dX11_drawn_21 rfl (lv_at hl 3 rfl) ?_
      refine lv_iconst (v := nI 0) zx zb dX11_drawn_22 (by decide) ?_
      refine lv_iconst (v := nI 4) zx zb dX11_drawn_23 (by decide) ?_
      refine callR_Si (As := [.int w, .int (nI 0), .int (nI 4)]) (rest := []) XX cs_X11_75 (c_X11_within Γ l w 0 4 ) hP hD hS hA nil_mem nil_D rfl hl.1 rfl ⟨⟨by decide, by decide⟩, by decide, by decide⟩ (Nat.le_of_ble_eq_true rfl) dX11_drawn_24 (fun r_24 H locs hw hP hS => ?_)
      have hw := hw.symm
      subst hw
      refine lv_if_ne (tgt := 39) zx zb dX11_drawn_27 (by decide) (fun c_27 => ?_) (fun c_27 => ?_)
      · have c_27 : (wi w 0 4) = true := bI_ne c_27
        obtain ⟨j, hj, rfl⟩ := wi_nat 0 30 c_7 rfl rfl (by decide)
        refine lv_aload_n zx zb dX11_drawn_39 rfl (lv_at hl 0 rfl) ?_
        refine g_get (v := .ref (x 0)) XX hP 0 0 rfl rfl rfl iwX11 1 (by decide) fl_X11_36 rfl dX11_drawn_40 ?_
        refine g_get (v := .ref (z 0)) XX hP 6 0 rfl rfl rfl iwX8 1 (by decide) fl_X11_82 rfl dX11_drawn_43 ?_
        refine lv_aload_n zx zb dX11_drawn_46 rfl (lv_at hl 0 rfl) ?_
        refine g_get (v := .ref (s 0)) XX hP 0 0 rfl rfl rfl iwX11 0 (by decide) fl_X11_30 rfl dX11_drawn_47 ?_
        refine g_get (v := .ref (y 0)) XX hP 1 0 rfl rfl rfl iwX8 1 (by decide) fl_X11_82 rfl dX11_drawn_50 ?_
        refine call_Vv (As := [.ref (y 0)]) (rest := []) XX cv_X11_142 (c_X10_copyOf Γ l z Z y Y ) hP hD hS hA [7, 5] (by decide) rfl (fun _ => rfl) 7 0 rfl rfl rfl rfl hl.1 rfl ⟨⟨by decide, by decide⟩, by decide, by decide⟩ (Nat.le_of_ble_eq_true rfl) dX11_drawn_53 (fun u H locs hw hP hD hS => ?_)
        have hw := hw.symm
        subst hw
        have hP : bP Γ [bTT Γ t s x V, bSt Γ s c y p pc, bCo Γ c k C, bTs Γ c k tr, bKd Γ k, bYr Γ y Y, bSt Γ x d z p2 pc2, bYr Γ z Y] H := hP
        have hD : bD AA [bTT Γ t s x V, bSt Γ s c y p pc, bCo Γ c k C, bTs Γ c k tr, bKd Γ k, bYr Γ y Y, bSt Γ x d z p2 pc2, bYr Γ z Y] := hD
        refine lv_iload_n zx zb dX11_drawn_56 rfl (lv_at hl 2 rfl) ?_
        refine lv_i2l (v := q.toInt64) zx zb dX11_drawn_57 rfl ?_
        refine lv_lstore (lv' := [(4, .long q.toInt64), (0, .ref (t 0)), (1, .int (nI j)), (2, .int q), (3, .int w)]) zx zb dX11_drawn_58 hl (by decide) rfl (fun ls hl => ?_)
        refine lv_iconst (v := nI 0) zx zb dX11_drawn_60 (by decide) ?_
        refine lv_istore (lv' := [(6, .int (nI 0)), (4, .long q.toInt64), (0, .ref (t 0)), (1, .int (nI j)), (2, .int q), (3, .int w)]) zx zb dX11_drawn_61 hl (by decide) rfl (fun ls hl => ?_)
        refine lv_iconst (v := nI 0) zx zb dX11_drawn_63 (by decide) ?_
        refine lv_istore (lv' := [(7, .int (nI 0)), (6, .int (nI 0)), (4, .long q.toInt64), (0, .ref (t 0)), (1, .int (nI j)), (2, .int q), (3, .int w)]) zx zb dX11_drawn_64 hl (by decide) rfl (fun ls hl => ?_)
        have L66 : ∀ (nn : Nat) (i : Nat) (h : Int64) (f : Int32) (Q : YrV), (i ≤ j) → (h = drX q.toInt64 i) → (f = drF C tr Y q.toInt64 i) → (Q = drM C tr Y q.toInt64 i) → j - i < nn → ∀ (H : Heap) (locs : List Loc), bP Γ [bTT Γ t s x V, bSt Γ s c y p pc, bCo Γ c k C, bTs Γ c k tr, bKd Γ k, bYr Γ y Y, bSt Γ x d z p2 pc2, bYr Γ z Q] H → bD AA [bTT Γ t s x V, bSt Γ s c y p pc, bCo Γ c k C, bTs Γ c k tr, bKd Γ k, bYr Γ y Y, bSt Γ x d z p2 pc2, bYr Γ z Q] → va_S AA ss.heap H locs → ∀ (ls : Array Slot), lv_has ls 9 [(0, .ref (t 0)), (1, .int (nI j)), (3, .int w), (4, .long h), (6, .int f), (7, .int (nI i))] → W pp l ee { frames := 4, cells := 0, slots := 0, locals := 93 } ss mm [.ref (t 0), .int (nI j), .int q, .int w].toArray bb me cd H locs 0 0 QQ (F0 mm 66 ls []) := by
          intro nn
          induction nn with
          | zero => intro i h f Q hi hh hf hQ hm; exact absurd hm (Nat.not_lt_zero _)
          | succ nn ih66 =>
            intro i h f Q hi hh hf hQ hm66 H locs hP hD hS ls hl
            refine lv_iload zx zb dX11_drawn_66 (lv_at hl 5 rfl) ?_
            refine lv_iload_n zx zb dX11_drawn_68 rfl (lv_at hl 1 rfl) ?_
            refine lv_icmp_ge (tgt := 149) zx zb dX11_drawn_69 (by decide) (fun c_69 => ?_) (fun c_69 => ?_)
            · have c_69 : j ≤ i := (nI_leI (a := j) (b := i) (by omega) (by omega)).mp c_69
              refine lv_aload_n zx zb dX11_drawn_149 rfl (lv_at hl 0 rfl) ?_
              refine lv_iload zx zb dX11_drawn_150 (lv_at hl 4 rfl) ?_
              refine lv_iload_n zx zb dX11_drawn_152 rfl (lv_at hl 2 rfl) ?_
              refine call_Vi (As := [.int f, .int w]) (rest := []) XX cv_X11_210 (c_X11_outcome Γ l t s x V c k y p pc C d z p2 pc2 Q f w (hn)) hP hD hS hA [0, 1, 2, 6, 7] (by decide) rfl (fun _ => rfl) 0 0 rfl rfl rfl rfl hl.1 rfl ⟨⟨by decide, by decide⟩, by decide, by decide⟩ (Nat.le_of_ble_eq_true rfl) dX11_drawn_153 (fun r_153 u H locs hw hP hD hS => ?_)
              have hw := hw.symm
              subst hw
              have hP : bP Γ [bTT Γ t s x V, bSt Γ s c y p pc, bCo Γ c k C, bTs Γ c k tr, bKd Γ k, bYr Γ y Y, bSt Γ x d z p2 pc2, bYr Γ z Q] H := hP
              have hD : bD AA [bTT Γ t s x V, bSt Γ s c y p pc, bCo Γ c k C, bTs Γ c k tr, bKd Γ k, bYr Γ y Y, bSt Γ x d z p2 pc2, bYr Γ z Q] := hD
              exact fin _ _ (outV C Q f w) (V, Q) 156 _ dX11_drawn_156 (fun h => by cases h) (by have e : i = j := (by omega); subst e; exact ⟨by unfold dwR dwOk; rw [c_7, c_18, c_27, nI_clamp (by omega), ← hf, ← hQ]; rfl, by unfold dwOk; rw [c_7, c_18, c_27]; rfl⟩) hP hD hS
            · have c_69 : ¬ (j ≤ i) := fun h => c_69 ((nI_leI (a := j) (b := i) (by omega) (by omega)).mpr h)
              refine lv_lload zx zb dX11_drawn_72 (lv_at hl 3 rfl) ?_
              refine lv_ldc2 zx zb hown (hts _ kl_X11_274) dX11_drawn_74 ?_
              refine lv_lmul zx zb dX11_drawn_77 ?_
              refine lv_ldc2 zx zb hown (hts _ kl_X11_276) dX11_drawn_78 ?_
              refine lv_ladd zx zb dX11_drawn_81 ?_
              refine lv_ldc2 zx zb hown (hts _ kl_X11_278) dX11_drawn_82 ?_
              refine lv_lrem zx zb dX11_drawn_85 (by decide) ?_
              refine lv_lstore (lv' := [(4, .long (((h * (1103515245 : Int64)) + (12345 : Int64)) - ((h * (1103515245 : Int64)) + (12345 : Int64)) / (2147483648 : Int64) * (2147483648 : Int64))), (0, .ref (t 0)), (1, .int (nI j)), (3, .int w), (6, .int f), (7, .int (nI i))]) zx zb dX11_drawn_86 hl (by decide) rfl (fun ls hl => ?_)
              refine lv_lload zx zb dX11_drawn_88 (lv_at hl 0 rfl) ?_
              refine lv_ldc2 zx zb hown (hts _ kl_X11_280) dX11_drawn_90 ?_
              refine lv_ldiv zx zb dX11_drawn_93 (by decide) ?_
              refine lv_ldc2 zx zb hown (hts _ kl_X11_282) dX11_drawn_94 ?_
              refine lv_lrem zx zb dX11_drawn_97 (by decide) ?_
              refine lv_l2i (v := (((((h * (1103515245 : Int64)) + (12345 : Int64)) - ((h * (1103515245 : Int64)) + (12345 : Int64)) / (2147483648 : Int64) * (2147483648 : Int64)) / (65536 : Int64)) - ((((h * (1103515245 : Int64)) + (12345 : Int64)) - ((h * (1103515245 : Int64)) + (12345 : Int64)) / (2147483648 : Int64) * (2147483648 : Int64)) / (65536 : Int64)) / (16 : Int64) * (16 : Int64)).toInt32) zx zb dX11_drawn_98 rfl ?_
              refine lv_aload_n zx zb dX11_drawn_99 rfl (lv_at hl 1 rfl) ?_
              refine g_get (v := .ref (s 0)) XX hP 0 0 rfl rfl rfl iwX11 0 (by decide) fl_X11_30 rfl dX11_drawn_100 ?_
              refine g_get (v := .ref (c 0)) XX hP 1 0 rfl rfl rfl iwX8 0 (by decide) fl_X11_100 rfl dX11_drawn_103 ?_
              refine lv_aload_n zx zb dX11_drawn_106 rfl (lv_at hl 1 rfl) ?_
              refine g_get (v := .ref (x 0)) XX hP 0 0 rfl rfl rfl iwX11 1 (by decide) fl_X11_36 rfl dX11_drawn_107 ?_
              refine g_get (v := .ref (z 0)) XX hP 6 0 rfl rfl rfl iwX8 1 (by decide) fl_X11_82 rfl dX11_drawn_110 ?_
              refine g_get (v := .int Q.1) XX hP 7 0 rfl rfl rfl iwX10 0 (by decide) fl_X11_110 rfl dX11_drawn_113 ?_
              refine call_Vi (As := [.int Q.1]) (rest := [.int ((((((h * (1103515245 : Int64)) + (12345 : Int64)) - ((h * (1103515245 : Int64)) + (12345 : Int64)) / (2147483648 : Int64) * (2147483648 : Int64)) / (65536 : Int64)) - ((((h * (1103515245 : Int64)) + (12345 : Int64)) - ((h * (1103515245 : Int64)) + (12345 : Int64)) / (2147483648 : Int64) * (2147483648 : Int64)) / (65536 : Int64)) / (16 : Int64) * (16 : Int64)).toInt32)]) XX cv_X11_284 (c_X2_springMore Γ l c k C Q.1 ) hP hD hS hA [2] (by decide) rfl (fun _ => rfl) 2 0 rfl rfl rfl rfl hl.1 rfl ⟨⟨by decide, by decide⟩, by decide, by decide⟩ (Nat.le_of_ble_eq_true rfl) dX11_drawn_116 (fun r_116 u H locs hw hP hD hS => ?_)
              have hw := hw.symm
              subst hw
              have hP : bP Γ [bTT Γ t s x V, bSt Γ s c y p pc, bCo Γ c k C, bTs Γ c k tr, bKd Γ k, bYr Γ y Y, bSt Γ x d z p2 pc2, bYr Γ z Q] H := hP
              have hD : bD AA [bTT Γ t s x V, bSt Γ s c y p pc, bCo Γ c k C, bTs Γ c k tr, bKd Γ k, bYr Γ y Y, bSt Γ x d z p2 pc2, bYr Γ z Q] := hD
              refine lv_iadd zx zb dX11_drawn_119 ?_
              refine lv_istore (lv' := [(8, .int (((((((h * (1103515245 : Int64)) + (12345 : Int64)) - ((h * (1103515245 : Int64)) + (12345 : Int64)) / (2147483648 : Int64) * (2147483648 : Int64)) / (65536 : Int64)) - ((((h * (1103515245 : Int64)) + (12345 : Int64)) - ((h * (1103515245 : Int64)) + (12345 : Int64)) / (2147483648 : Int64) * (2147483648 : Int64)) / (65536 : Int64)) / (16 : Int64) * (16 : Int64)).toInt32) + (coMore C Q.1))), (4, .long (((h * (1103515245 : Int64)) + (12345 : Int64)) - ((h * (1103515245 : Int64)) + (12345 : Int64)) / (2147483648 : Int64) * (2147483648 : Int64))), (0, .ref (t 0)), (1, .int (nI j)), (3, .int w), (6, .int f), (7, .int (nI i))]) zx zb dX11_drawn_120 hl (by decide) rfl (fun ls hl => ?_)
              refine lv_aload_n zx zb dX11_drawn_122 rfl (lv_at hl 2 rfl) ?_
              refine g_get (v := .ref (s 0)) XX hP 0 0 rfl rfl rfl iwX11 0 (by decide) fl_X11_30 rfl dX11_drawn_123 ?_
              refine g_get (v := .ref (c 0)) XX hP 1 0 rfl rfl rfl iwX8 0 (by decide) fl_X11_100 rfl dX11_drawn_126 ?_
              refine lv_aload_n zx zb dX11_drawn_129 rfl (lv_at hl 2 rfl) ?_
              refine g_get (v := .ref (x 0)) XX hP 0 0 rfl rfl rfl iwX11 1 (by decide) fl_X11_36 rfl dX11_drawn_130 ?_
              refine g_get (v := .ref (z 0)) XX hP 6 0 rfl rfl rfl iwX8 1 (by decide) fl_X11_82 rfl dX11_drawn_133 ?_
              refine lv_iload zx zb dX11_drawn_136 (lv_at hl 0 rfl) ?_
              refine call_Vi (As := [.ref (z 0), .int (((((((h * (1103515245 : Int64)) + (12345 : Int64)) - ((h * (1103515245 : Int64)) + (12345 : Int64)) / (2147483648 : Int64) * (2147483648 : Int64)) / (65536 : Int64)) - ((((h * (1103515245 : Int64)) + (12345 : Int64)) - ((h * (1103515245 : Int64)) + (12345 : Int64)) / (2147483648 : Int64) * (2147483648 : Int64)) / (65536 : Int64)) / (16 : Int64) * (16 : Int64)).toInt32) + (coMore C Q.1))]) (rest := []) XX cv_X11_151 (c_X2_runYear Γ l c k C tr z Q (((((((h * (1103515245 : Int64)) + (12345 : Int64)) - ((h * (1103515245 : Int64)) + (12345 : Int64)) / (2147483648 : Int64) * (2147483648 : Int64)) / (65536 : Int64)) - ((((h * (1103515245 : Int64)) + (12345 : Int64)) - ((h * (1103515245 : Int64)) + (12345 : Int64)) / (2147483648 : Int64) * (2147483648 : Int64)) / (65536 : Int64)) / (16 : Int64) * (16 : Int64)).toInt32) + (coMore C Q.1)) (hn) (htc) (hkd)) hP hD hS hA [2, 3, 4, 7] (by decide) rfl (fun _ => rfl) 2 0 rfl rfl rfl rfl hl.1 rfl ⟨⟨by decide, by decide⟩, by decide, by decide⟩ (Nat.le_of_ble_eq_true rfl) dX11_drawn_138 (fun r_138 u H locs hw hP hD hS => ?_)
              obtain ⟨hw1, hw2⟩ := hw
              have hw1 := hw1.symm
              have hw2 := hw2.symm
              subst hw1
              subst hw2
              have hP : bP Γ [bTT Γ t s x V, bSt Γ s c y p pc, bCo Γ c k C, bTs Γ c k tr, bKd Γ k, bYr Γ y Y, bSt Γ x d z p2 pc2, bYr Γ z (coYear C tr Q (((((((h * (1103515245 : Int64)) + (12345 : Int64)) - ((h * (1103515245 : Int64)) + (12345 : Int64)) / (2147483648 : Int64) * (2147483648 : Int64)) / (65536 : Int64)) - ((((h * (1103515245 : Int64)) + (12345 : Int64)) - ((h * (1103515245 : Int64)) + (12345 : Int64)) / (2147483648 : Int64) * (2147483648 : Int64)) / (65536 : Int64)) / (16 : Int64) * (16 : Int64)).toInt32) + (coMore C Q.1)))] H := hP
              have hD : bD AA [bTT Γ t s x V, bSt Γ s c y p pc, bCo Γ c k C, bTs Γ c k tr, bKd Γ k, bYr Γ y Y, bSt Γ x d z p2 pc2, bYr Γ z (coYear C tr Q (((((((h * (1103515245 : Int64)) + (12345 : Int64)) - ((h * (1103515245 : Int64)) + (12345 : Int64)) / (2147483648 : Int64) * (2147483648 : Int64)) / (65536 : Int64)) - ((((h * (1103515245 : Int64)) + (12345 : Int64)) - ((h * (1103515245 : Int64)) + (12345 : Int64)) / (2147483648 : Int64) * (2147483648 : Int64)) / (65536 : Int64)) / (16 : Int64) * (16 : Int64)).toInt32) + (coMore C Q.1)))] := hD
              refine lv_istore (lv' := [(6, .int (coFl C tr Q (((((((h * (1103515245 : Int64)) + (12345 : Int64)) - ((h * (1103515245 : Int64)) + (12345 : Int64)) / (2147483648 : Int64) * (2147483648 : Int64)) / (65536 : Int64)) - ((((h * (1103515245 : Int64)) + (12345 : Int64)) - ((h * (1103515245 : Int64)) + (12345 : Int64)) / (2147483648 : Int64) * (2147483648 : Int64)) / (65536 : Int64)) / (16 : Int64) * (16 : Int64)).toInt32) + (coMore C Q.1)))), (8, .int (((((((h * (1103515245 : Int64)) + (12345 : Int64)) - ((h * (1103515245 : Int64)) + (12345 : Int64)) / (2147483648 : Int64) * (2147483648 : Int64)) / (65536 : Int64)) - ((((h * (1103515245 : Int64)) + (12345 : Int64)) - ((h * (1103515245 : Int64)) + (12345 : Int64)) / (2147483648 : Int64) * (2147483648 : Int64)) / (65536 : Int64)) / (16 : Int64) * (16 : Int64)).toInt32) + (coMore C Q.1))), (4, .long (((h * (1103515245 : Int64)) + (12345 : Int64)) - ((h * (1103515245 : Int64)) + (12345 : Int64)) / (2147483648 : Int64) * (2147483648 : Int64))), (0, .ref (t 0)), (1, .int (nI j)), (3, .int w), (7, .int (nI i))]) zx zb dX11_drawn_141 hl (by decide) rfl (fun ls hl => ?_)
              refine lv_iinc (v := nI (i + 1)) (lv' := [(7, .int (nI (i + 1))), (6, .int (coFl C tr Q (((((((h * (1103515245 : Int64)) + (12345 : Int64)) - ((h * (1103515245 : Int64)) + (12345 : Int64)) / (2147483648 : Int64) * (2147483648 : Int64)) / (65536 : Int64)) - ((((h * (1103515245 : Int64)) + (12345 : Int64)) - ((h * (1103515245 : Int64)) + (12345 : Int64)) / (2147483648 : Int64) * (2147483648 : Int64)) / (65536 : Int64)) / (16 : Int64) * (16 : Int64)).toInt32) + (coMore C Q.1)))), (8, .int (((((((h * (1103515245 : Int64)) + (12345 : Int64)) - ((h * (1103515245 : Int64)) + (12345 : Int64)) / (2147483648 : Int64) * (2147483648 : Int64)) / (65536 : Int64)) - ((((h * (1103515245 : Int64)) + (12345 : Int64)) - ((h * (1103515245 : Int64)) + (12345 : Int64)) / (2147483648 : Int64) * (2147483648 : Int64)) / (65536 : Int64)) / (16 : Int64) * (16 : Int64)).toInt32) + (coMore C Q.1))), (4, .long (((h * (1103515245 : Int64)) + (12345 : Int64)) - ((h * (1103515245 : Int64)) + (12345 : Int64)) / (2147483648 : Int64) * (2147483648 : Int64))), (0, .ref (t 0)), (1, .int (nI j)), (3, .int w)]) zx zb dX11_drawn_143 hl (k := 6) rfl (nI_inc _ 1) (by decide) rfl (fun ls hl => ?_)
              refine lv_goto (tgt := 66) zx zb dX11_drawn_146 (by decide) ?_
              exact ih66 (i + 1) (((h * (1103515245 : Int64)) + (12345 : Int64)) - ((h * (1103515245 : Int64)) + (12345 : Int64)) / (2147483648 : Int64) * (2147483648 : Int64)) (coFl C tr Q (((((((h * (1103515245 : Int64)) + (12345 : Int64)) - ((h * (1103515245 : Int64)) + (12345 : Int64)) / (2147483648 : Int64) * (2147483648 : Int64)) / (65536 : Int64)) - ((((h * (1103515245 : Int64)) + (12345 : Int64)) - ((h * (1103515245 : Int64)) + (12345 : Int64)) / (2147483648 : Int64) * (2147483648 : Int64)) / (65536 : Int64)) / (16 : Int64) * (16 : Int64)).toInt32) + (coMore C Q.1))) (coYear C tr Q (((((((h * (1103515245 : Int64)) + (12345 : Int64)) - ((h * (1103515245 : Int64)) + (12345 : Int64)) / (2147483648 : Int64) * (2147483648 : Int64)) / (65536 : Int64)) - ((((h * (1103515245 : Int64)) + (12345 : Int64)) - ((h * (1103515245 : Int64)) + (12345 : Int64)) / (2147483648 : Int64) * (2147483648 : Int64)) / (65536 : Int64)) / (16 : Int64) * (16 : Int64)).toInt32) + (coMore C Q.1))) (by omega) (by rw [drX, ← hh]) (by rw [drF, ← hQ, drS, drX, ← hh]) (by rw [drM, ← hQ, drS, drX, ← hh]) (by omega) _ _ hP hD hS _ (lv_sub hl [4, 5, 6, 3, 1, 0] rfl)
        exact L66 _ 0 q.toInt64 0 Y (by omega) (rfl) (rfl) (rfl) (Nat.lt_succ_self _) _ _ hP hD hS _ (lv_sub hl [3, 4, 6, 2, 1, 0] rfl)
      · have c_27 : (wi w 0 4) = false := bI_0.mp c_27
        refine lv_aload_n zx zb dX11_drawn_30 rfl (lv_at hl 0 rfl) ?_
        refine lv_bipush (v := (-2)) zx zb dX11_drawn_31 (by decide) ?_
        refine lv_bipush (v := (-2)) zx zb dX11_drawn_33 (by decide) ?_
        refine call_Vi (As := [.int (-2), .int (-2)]) (rest := []) XX cv_X11_79 (c_X11_refused Γ l t s x V (-2) (-2) ) hP hD hS hA [0] (by decide) rfl (fun _ => rfl) 0 0 rfl rfl rfl rfl hl.1 rfl ⟨⟨by decide, by decide⟩, by decide, by decide⟩ (Nat.le_of_ble_eq_true rfl) dX11_drawn_35 (fun r_35 u H locs hw hP hD hS => ?_)
        obtain ⟨hw1, hw2⟩ := hw
        have hw1 := hw1.symm
        have hw2 := hw2.symm
        subst hw1
        subst hw2
        have hP : bP Γ [bTT Γ t s x (ttRef V (-2)), bSt Γ s c y p pc, bCo Γ c k C, bTs Γ c k tr, bKd Γ k, bYr Γ y Y, bSt Γ x d z p2 pc2, bYr Γ z Z] H := hP
        have hD : bD AA [bTT Γ t s x (ttRef V (-2)), bSt Γ s c y p pc, bCo Γ c k C, bTs Γ c k tr, bKd Γ k, bYr Γ y Y, bSt Γ x d z p2 pc2, bYr Γ z Z] := hD
        exact fin _ _ (-2) ((ttRef V (-2)), Z) 38 _ dX11_drawn_38 (fun h => by cases h) (⟨by simp [dwR, dwOk, c_7, c_18, c_27], by simp only [stV, dwOk, c_7, c_18, c_27, ttRef_b, Bool.false_and, Bool.and_false]; rfl⟩) hP hD hS

set_option maxHeartbeats 4000000 in
set_option maxRecDepth 100000 in
theorem c_X11_digest (Γ : GG) (l : Launch) (t : Nat → Nat) (s : Nat → Nat) (x : Nat → Nat) (V : V3) (c : Nat → Nat) (k : Nat → Nat) (y : Nat → Nat) (p : Nat → Nat → Nat) (pc : Nat) (C : CoV) (tr : Nat → TrV) (Y : YrV) (L : ScV) (hn : C.1 ≤ 8) (htc : C.2.2.2.2.2.2.1 ≤ 6) (hdc : C.2.2.2.2.2.2.2.1 ≤ 6) : Cl Γ l yX11_digest cX11_digest 4 (some (.long)) 2 45 0 0 [.ref (t 0)] [bTT Γ t s x V, bSt Γ s c y p pc, bCo Γ c k C, bTs Γ c k tr, bYr Γ y Y, bSc Γ t L] (fun (r : Int64) (u : Unit) => r = digR C tr Y pc L.1) (fun (u : Unit) => [bTT Γ t s x V, bSt Γ s c y p pc, bCo Γ c k C, bTs Γ c k tr, bYr Γ y Y, bSc Γ t L]) := by
  refine Cl.of rfl (by decide) (Nat.le_of_ble_eq_true rfl) ?_
  intro pp ee ss mm bb me cd AA QQ XX hnm hA hP hD fin ls hl
  obtain ⟨zx, zb, hml, hown, hts, hK⟩ := id XX
  have hS : va_S AA ss.heap ss.heap [] := va_S.rf
  have hl : lv_has ls 4 [(0, .ref (t 0))] := hl
  refine lv_ldc2 zx zb hown (hts _ kl_X11_312) dX11_digest_0 ?_
  refine lv_lstore_n (lv' := [(1, .long (907 : Int64)), (0, .ref (t 0))]) zx zb dX11_digest_3 rfl hl (by decide) rfl (fun ls hl => ?_)
  refine lv_iconst (v := nI 0) zx zb dX11_digest_4 (by decide) ?_
  refine lv_istore_n (lv' := [(3, .int (nI 0)), (1, .long (907 : Int64)), (0, .ref (t 0))]) zx zb dX11_digest_5 rfl hl (by decide) rfl (fun ls hl => ?_)
  have L6 : ∀ (nn : Nat) (i : Nat) (h : Int64), (i ≤ 8) → (h = digA C Y pc L.1 i) → 8 - i < nn → ∀ (H : Heap) (locs : List Loc), bP Γ [bTT Γ t s x V, bSt Γ s c y p pc, bCo Γ c k C, bTs Γ c k tr, bYr Γ y Y, bSc Γ t L] H → bD AA [bTT Γ t s x V, bSt Γ s c y p pc, bCo Γ c k C, bTs Γ c k tr, bYr Γ y Y, bSc Γ t L] → va_S AA ss.heap H locs → ∀ (ls : Array Slot), lv_has ls 4 [(0, .ref (t 0)), (1, .long h), (3, .int (nI i))] → W pp l ee { frames := 2, cells := 0, slots := 0, locals := 45 } ss mm [.ref (t 0)].toArray bb me cd H locs 0 0 QQ (F0 mm 6 ls []) := by
    intro nn
    induction nn with
    | zero => intro i h hi hh hm; exact absurd hm (Nat.not_lt_zero _)
    | succ nn ih6 =>
      intro i h hi hh hm6 H locs hP hD hS ls hl
      refine lv_iload_n zx zb dX11_digest_6 rfl (lv_at hl 2 rfl) ?_
      refine lv_bipush (v := nI 7) zx zb dX11_digest_7 (by decide) ?_
      refine lv_icmp_gt (tgt := 31) zx zb dX11_digest_9 (by decide) (fun c_9 => ?_) (fun c_9 => ?_)
      · have c_9 : 7 < i := (nI_ltI (a := 7) (b := i) (by omega) (by omega)).mp c_9
        refine lv_aload_n zx zb dX11_digest_31 rfl (lv_at hl 0 rfl) ?_
        refine g_get (v := .ref (s 0)) XX hP 0 0 rfl rfl rfl iwX11 0 (by decide) fl_X11_30 rfl dX11_digest_32 ?_
        refine g_get (v := .ref (c 0)) XX hP 1 0 rfl rfl rfl iwX8 0 (by decide) fl_X11_100 rfl dX11_digest_35 ?_
        refine lv_lload_n zx zb dX11_digest_38 rfl (lv_at hl 1 rfl) ?_
        refine call_Vl (As := [.long h]) (rest := []) XX cv_X11_316 (c_X2_mixWants Γ l c k C h ) hP hD hS hA [2] (by decide) rfl (fun _ => rfl) 2 0 rfl rfl rfl rfl hl.1 rfl ⟨⟨by decide, by decide⟩, by decide, by decide⟩ (Nat.le_of_ble_eq_true rfl) dX11_digest_39 (fun r_39 u H locs hw hP hD hS => ?_)
        have hw := hw.symm
        subst hw
        have hP : bP Γ [bTT Γ t s x V, bSt Γ s c y p pc, bCo Γ c k C, bTs Γ c k tr, bYr Γ y Y, bSc Γ t L] H := hP
        have hD : bD AA [bTT Γ t s x V, bSt Γ s c y p pc, bCo Γ c k C, bTs Γ c k tr, bYr Γ y Y, bSc Γ t L] := hD
        refine lv_lstore_n (lv' := [(1, .long (mixF (coWn C) h 8)), (0, .ref (t 0)), (3, .int (nI i))]) zx zb dX11_digest_42 rfl hl (by decide) rfl (fun ls hl => ?_)
        refine lv_aload_n zx zb dX11_digest_43 rfl (lv_at hl 1 rfl) ?_
        refine g_get (v := .ref (s 0)) XX hP 0 0 rfl rfl rfl iwX11 0 (by decide) fl_X11_30 rfl dX11_digest_44 ?_
        refine lv_lload_n zx zb dX11_digest_47 rfl (lv_at hl 0 rfl) ?_
        refine call_Vl (As := [.long (mixF (coWn C) h 8)]) (rest := []) XX cv_X11_320 (c_X8_mixCells Γ l s c k y p pc C Y (mixF (coWn C) h 8) (hn)) hP hD hS hA [1, 2, 4] (by decide) rfl (fun _ => rfl) 1 0 rfl rfl rfl rfl hl.1 rfl ⟨⟨by decide, by decide⟩, by decide, by decide⟩ (Nat.le_of_ble_eq_true rfl) dX11_digest_48 (fun r_48 u H locs hw hP hD hS => ?_)
        have hw := hw.symm
        subst hw
        have hP : bP Γ [bTT Γ t s x V, bSt Γ s c y p pc, bCo Γ c k C, bTs Γ c k tr, bYr Γ y Y, bSc Γ t L] H := hP
        have hD : bD AA [bTT Γ t s x V, bSt Γ s c y p pc, bCo Γ c k C, bTs Γ c k tr, bYr Γ y Y, bSc Γ t L] := hD
        refine lv_lstore_n (lv' := [(1, .long (stMixC C Y (mixF (coWn C) h 8) C.1)), (0, .ref (t 0)), (3, .int (nI i))]) zx zb dX11_digest_51 rfl hl (by decide) rfl (fun ls hl => ?_)
        refine lv_aload_n zx zb dX11_digest_52 rfl (lv_at hl 1 rfl) ?_
        refine g_get (v := .ref (s 0)) XX hP 0 0 rfl rfl rfl iwX11 0 (by decide) fl_X11_30 rfl dX11_digest_53 ?_
        refine lv_lload_n zx zb dX11_digest_56 rfl (lv_at hl 0 rfl) ?_
        refine call_Vl (As := [.long (stMixC C Y (mixF (coWn C) h 8) C.1)]) (rest := []) XX cv_X11_323 (c_X8_mixTreaties Γ l s c k y p pc C tr Y (stMixC C Y (mixF (coWn C) h 8) C.1) (htc)) hP hD hS hA [1, 2, 3, 4] (by decide) rfl (fun _ => rfl) 1 0 rfl rfl rfl rfl hl.1 rfl ⟨⟨by decide, by decide⟩, by decide, by decide⟩ (Nat.le_of_ble_eq_true rfl) dX11_digest_57 (fun r_57 u H locs hw hP hD hS => ?_)
        have hw := hw.symm
        subst hw
        have hP : bP Γ [bTT Γ t s x V, bSt Γ s c y p pc, bCo Γ c k C, bTs Γ c k tr, bYr Γ y Y, bSc Γ t L] H := hP
        have hD : bD AA [bTT Γ t s x V, bSt Γ s c y p pc, bCo Γ c k C, bTs Γ c k tr, bYr Γ y Y, bSc Γ t L] := hD
        refine lv_lstore_n (lv' := [(1, .long (stMixT tr Y (stMixC C Y (mixF (coWn C) h 8) C.1) C.2.2.2.2.2.2.1)), (0, .ref (t 0)), (3, .int (nI i))]) zx zb dX11_digest_60 rfl hl (by decide) rfl (fun ls hl => ?_)
        refine lv_aload_n zx zb dX11_digest_61 rfl (lv_at hl 1 rfl) ?_
        refine g_get (v := .ref (s 0)) XX hP 0 0 rfl rfl rfl iwX11 0 (by decide) fl_X11_30 rfl dX11_digest_62 ?_
        refine g_get (v := .ref (c 0)) XX hP 1 0 rfl rfl rfl iwX8 0 (by decide) fl_X11_100 rfl dX11_digest_65 ?_
        refine lv_lload_n zx zb dX11_digest_68 rfl (lv_at hl 0 rfl) ?_
        refine call_Vl (As := [.long (stMixT tr Y (stMixC C Y (mixF (coWn C) h 8) C.1) C.2.2.2.2.2.2.1)]) (rest := []) XX cv_X11_326 (c_X2_mixTides Γ l c k C (stMixT tr Y (stMixC C Y (mixF (coWn C) h 8) C.1) C.2.2.2.2.2.2.1) (hdc)) hP hD hS hA [2] (by decide) rfl (fun _ => rfl) 2 0 rfl rfl rfl rfl hl.1 rfl ⟨⟨by decide, by decide⟩, by decide, by decide⟩ (Nat.le_of_ble_eq_true rfl) dX11_digest_69 (fun r_69 u H locs hw hP hD hS => ?_)
        have hw := hw.symm
        subst hw
        have hP : bP Γ [bTT Γ t s x V, bSt Γ s c y p pc, bCo Γ c k C, bTs Γ c k tr, bYr Γ y Y, bSc Γ t L] H := hP
        have hD : bD AA [bTT Γ t s x V, bSt Γ s c y p pc, bCo Γ c k C, bTs Γ c k tr, bYr Γ y Y, bSc Γ t L] := hD
        exact fin _ _ (coMixT C (stMixT tr Y (stMixC C Y (mixF (coWn C) h 8) C.1) C.2.2.2.2.2.2.1) C.2.2.2.2.2.2.2.1) () 72 _ dX11_digest_72 (by have e : i = 8 := (by omega); subst e; rw [hh]; rfl) hP hD hS
      · have c_9 : ¬ (7 < i) := fun h => c_9 ((nI_ltI (a := 7) (b := i) (by omega) (by omega)).mpr h)
        refine lv_ldc2 zx zb hown (hts _ kl_X11_314) dX11_digest_12 ?_
        refine lv_lload_n zx zb dX11_digest_15 rfl (lv_at hl 1 rfl) ?_
        refine lv_lmul zx zb dX11_digest_16 ?_
        refine lv_aload_n zx zb dX11_digest_17 rfl (lv_at hl 0 rfl) ?_
        refine lv_iload_n zx zb dX11_digest_18 rfl (lv_at hl 2 rfl) ?_
        refine call_Vi (As := [.int (nI i)]) (rest := [.long ((31 : Int64) * h)]) XX cv_X11_309 (c_X11_amount Γ l t s x V c k y p pc C Y L (nI i) ) hP hD hS hA [0, 1, 2, 4, 5] (by decide) rfl (fun _ => rfl) 0 0 rfl rfl rfl rfl hl.1 rfl ⟨⟨by decide, by decide⟩, by decide, by decide⟩ (Nat.le_of_ble_eq_true rfl) dX11_digest_19 (fun r_19 u H locs hw hP hD hS => ?_)
        have hw := hw.symm
        subst hw
        have hP : bP Γ [bTT Γ t s x V, bSt Γ s c y p pc, bCo Γ c k C, bTs Γ c k tr, bYr Γ y Y, bSc Γ t L] H := hP
        have hD : bD AA [bTT Γ t s x V, bSt Γ s c y p pc, bCo Γ c k C, bTs Γ c k tr, bYr Γ y Y, bSc Γ t L] := hD
        refine lv_i2l (v := (amV C Y pc L.1 (nI i)).toInt64) zx zb dX11_digest_22 rfl ?_
        refine lv_ladd zx zb dX11_digest_23 ?_
        refine lv_lstore_n (lv' := [(1, .long (((31 : Int64) * h) + ((amV C Y pc L.1 (nI i)).toInt64))), (0, .ref (t 0)), (3, .int (nI i))]) zx zb dX11_digest_24 rfl hl (by decide) rfl (fun ls hl => ?_)
        refine lv_iinc (v := nI (i + 1)) (lv' := [(3, .int (nI (i + 1))), (1, .long (((31 : Int64) * h) + ((amV C Y pc L.1 (nI i)).toInt64))), (0, .ref (t 0))]) zx zb dX11_digest_25 hl (k := 2) rfl (nI_inc _ 1) (by decide) rfl (fun ls hl => ?_)
        refine lv_goto (tgt := 6) zx zb dX11_digest_28 (by decide) ?_
        exact ih6 (i + 1) (((31 : Int64) * h) + ((amV C Y pc L.1 (nI i)).toInt64)) (by omega) (by rw [digA, ← hh]) (by omega) _ _ hP hD hS _ (lv_sub hl [2, 1, 0] rfl)
  exact L6 _ 0 (907 : Int64) (by omega) (rfl) (Nat.lt_succ_self _) _ _ hP hD hS _ (lv_sub hl [2, 1, 0] rfl)

set_option maxHeartbeats 4000000 in
set_option maxRecDepth 100000 in
theorem c_X11_year (Γ : GG) (l : Launch) (t : Nat → Nat) (s : Nat → Nat) (x : Nat → Nat) (V : V3) (c : Nat → Nat) (k : Nat → Nat) (y : Nat → Nat) (p : Nat → Nat → Nat) (pc : Nat) (C : CoV) (tr : Nat → TrV) (Y : YrV) (P : Nat → YrV) (n : Int32) (hn : C.1 ≤ 8) (htc : C.2.2.2.2.2.2.1 ≤ 6) (hkd : ∀ i, i < 6 → (tr i).1 < 6) (hpc : pc ≤ 6) : Ci Γ l yX11_year cX11_year 3 (some (.int)) 4 93 0 0 [.ref (t 0), .int n] [bTT Γ t s x V, bSt Γ s c y p pc, bCo Γ c k C, bTs Γ c k tr, bKd Γ k, bYr Γ y Y, bYr Γ (p 0) (P 0), bYr Γ (p 1) (P 1), bYr Γ (p 2) (P 2), bYr Γ (p 3) (P 3), bYr Γ (p 4) (P 4), bYr Γ (p 5) (P 5)] (fun (r : Int32) (u : V3 × YrV × Nat × (Nat → YrV) × (Nat → Nat → Nat)) => r = yeR C tr Y n ∧ u.1 = yeV V Y n ∧ (u.2.1, u.2.2.1, u.2.2.2.1) = yeS C tr Y pc P n) (fun (u : V3 × YrV × Nat × (Nat → YrV) × (Nat → Nat → Nat)) => [bTT Γ t s x u.1, bSt Γ s c y u.2.2.2.2 u.2.2.1, bCo Γ c k C, bTs Γ c k tr, bKd Γ k, bYr Γ y u.2.1, bYr Γ (u.2.2.2.2 0) (u.2.2.2.1 0), bYr Γ (u.2.2.2.2 1) (u.2.2.2.1 1), bYr Γ (u.2.2.2.2 2) (u.2.2.2.1 2), bYr Γ (u.2.2.2.2 3) (u.2.2.2.1 3), bYr Γ (u.2.2.2.2 4) (u.2.2.2.1 4), bYr Γ (u.2.2.2.2 5) (u.2.2.2.1 5)]) := by
  refine Ci.of (Or.inl rfl) (by decide) (Nat.le_of_ble_eq_true rfl) ?_
  intro pp ee ss mm bb me cd AA QQ XX hnm hA hP hD fin ls hl
  obtain ⟨zx, zb, hml, hown, hts, hK⟩ := id XX
  have hS : va_S AA ss.heap ss.heap [] := va_S.rf
  have hl : lv_has ls 3 [(0, .ref (t 0)), (1, .int n)] := hl
  refine lv_iload_n zx zb dX11_year_0 rfl (lv_at hl 1 rfl) ?_
  refine lv_iconst (v := nI 1) zx zb dX11_year_1 (by decide) ?_
  refine lv_bipush (v := nI 9) zx zb dX11_year_2 (by decide) ?_
  refine callR_Si (As := [.int n, .int (nI 1), .int (nI 9)]) (rest := []) XX cs_X11_75 (c_X11_within Γ l n 1 9 ) hP hD hS hA nil_mem nil_D rfl hl.1 rfl ⟨⟨by decide, by decide⟩, by decide, by decide⟩ (Nat.le_of_ble_eq_true rfl) dX11_year_4 (fun r_4 H locs hw hP hS => ?_)
  have hw := hw.symm
  subst hw
  refine lv_if_ne (tgt := 19) zx zb dX11_year_7 (by decide) (fun c_7 => ?_) (fun c_7 => ?_)
  · have c_7 : (wi n 1 9) = true := bI_ne c_7
    refine lv_aload_n zx zb dX11_year_19 rfl (lv_at hl 0 rfl) ?_
    refine g_get (v := .ref (s 0)) XX hP 0 0 rfl rfl rfl iwX11 0 (by decide) fl_X11_30 rfl dX11_year_20 ?_
    refine g_get (v := .ref (y 0)) XX hP 1 0 rfl rfl rfl iwX8 1 (by decide) fl_X11_82 rfl dX11_year_23 ?_
    refine g_get (v := .int Y.1) XX hP 5 0 rfl rfl rfl iwX10 0 (by decide) fl_X11_110 rfl dX11_year_26 ?_
    refine lv_sipush (v := nI 900) zx zb dX11_year_29 (by decide) ?_
    refine lv_icmp_le (tgt := 44) zx zb dX11_year_32 (by decide) (fun c_32 => ?_) (fun c_32 => ?_)
    · have c_32 : Y.1 ≤ (900 : Int32) := c_32
      obtain ⟨j, hj, rfl⟩ := wi_nat 1 9 c_7 rfl rfl (by decide)
      refine lv_iconst (v := nI 0) zx zb dX11_year_44 (by decide) ?_
      refine lv_istore_n (lv' := [(2, .int (nI 0)), (0, .ref (t 0)), (1, .int (nI j))]) zx zb dX11_year_45 rfl hl (by decide) rfl (fun ls hl => ?_)
      have L46 : ∀ (nn : Nat) (i : Nat) (Q : YrV) (g : Nat) (R : Nat → YrV) (o : Nat → Nat → Nat), (i ≤ j) → (g ≤ 6) → ((Q, g, R) = yrsRun C tr Y pc P i) → j - i < nn → ∀ (H : Heap) (locs : List Loc), bP Γ [bTT Γ t s x V, bSt Γ s c y o g, bCo Γ c k C, bTs Γ c k tr, bKd Γ k, bYr Γ y Q, bYr Γ (o 0) (R 0), bYr Γ (o 1) (R 1), bYr Γ (o 2) (R 2), bYr Γ (o 3) (R 3), bYr Γ (o 4) (R 4), bYr Γ (o 5) (R 5)] H → bD AA [bTT Γ t s x V, bSt Γ s c y o g, bCo Γ c k C, bTs Γ c k tr, bKd Γ k, bYr Γ y Q, bYr Γ (o 0) (R 0), bYr Γ (o 1) (R 1), bYr Γ (o 2) (R 2), bYr Γ (o 3) (R 3), bYr Γ (o 4) (R 4), bYr Γ (o 5) (R 5)] → va_S AA ss.heap H locs → ∀ (ls : Array Slot), lv_has ls 3 [(0, .ref (t 0)), (1, .int (nI j)), (2, .int (nI i))] → W pp l ee { frames := 4, cells := 0, slots := 0, locals := 93 } ss mm [.ref (t 0), .int (nI j)].toArray bb me cd H locs 0 0 QQ (F0 mm 46 ls []) := by
        intro nn
        induction nn with
        | zero => intro i Q g R o hi hg hQ hm; exact absurd hm (Nat.not_lt_zero _)
        | succ nn ih46 =>
          intro i Q g R o hi hg hQ hm46 H locs hP hD hS ls hl
          refine lv_iload_n zx zb dX11_year_46 rfl (lv_at hl 2 rfl) ?_
          refine lv_iload_n zx zb dX11_year_47 rfl (lv_at hl 1 rfl) ?_
          refine lv_icmp_ge (tgt := 102) zx zb dX11_year_48 (by decide) (fun c_48 => ?_) (fun c_48 => ?_)
          · have c_48 : j ≤ i := (nI_leI (a := j) (b := i) (by omega) (by omega)).mp c_48
            refine lv_aload_n zx zb dX11_year_102 rfl (lv_at hl 0 rfl) ?_
            refine g_get (v := .ref (s 0)) XX hP 0 0 rfl rfl rfl iwX11 0 (by decide) fl_X11_30 rfl dX11_year_103 ?_
            refine g_get (v := .ref (y 0)) XX hP 1 0 rfl rfl rfl iwX8 1 (by decide) fl_X11_82 rfl dX11_year_106 ?_
            refine g_get (v := .int Q.2.1) XX hP 5 0 rfl rfl rfl iwX10 1 (by decide) fl_X11_86 rfl dX11_year_109 ?_
            exact fin _ _ Q.2.1 (V, Q, g, R, o) 112 _ dX11_year_112 (fun h => by cases h) (by have e : i = j := (by omega); subst e; exact ye_ok c_7 c_32 (by omega) hQ) hP hD hS
          · have c_48 : ¬ (j ≤ i) := fun h => c_48 ((nI_leI (a := j) (b := i) (by omega) (by omega)).mpr h)
            rcases (show g = 6 ∨ g < 6 by omega) with hal | hal
            · subst hal
              refine lv_aload_n zx zb dX11_year_51 rfl (lv_at hl 0 rfl) ?_
              refine g_get (v := .ref (s 0)) XX hP 0 0 rfl rfl rfl iwX11 0 (by decide) fl_X11_30 rfl dX11_year_52 ?_
              refine call_Vv (As := []) (rest := []) XX cv_X11_145 (c_X8_keepPast_b Γ l s c y o Q R ) hP hD hS hA [1, 5, 6, 7, 8, 9, 10, 11] (by decide) rfl (fun _ => rfl) 1 0 rfl rfl rfl rfl hl.1 rfl ⟨⟨by decide, by decide⟩, by decide, by decide⟩ (Nat.le_of_ble_eq_true rfl) dX11_year_55 (fun u H locs hw hP hD hS => ?_)
              obtain ⟨u_55, rfl⟩ : ∃ z, z = u := ⟨_, rfl⟩
              have w_55 := hw
              have hP : bP Γ [bTT Γ t s x V, bSt Γ s c y (rotP o) 6, bCo Γ c k C, bTs Γ c k tr, bKd Γ k, bYr Γ y Q, bYr Γ (rotP o 0) (va_up (rotV R) 5 Q 0), bYr Γ (rotP o 1) (va_up (rotV R) 5 Q 1), bYr Γ (rotP o 2) (va_up (rotV R) 5 Q 2), bYr Γ (rotP o 3) (va_up (rotV R) 5 Q 3), bYr Γ (rotP o 4) (va_up (rotV R) 5 Q 4), bYr Γ (rotP o 5) (va_up (rotV R) 5 Q 5)] H := hP
              have hD : bD AA [bTT Γ t s x V, bSt Γ s c y (rotP o) 6, bCo Γ c k C, bTs Γ c k tr, bKd Γ k, bYr Γ y Q, bYr Γ (rotP o 0) (va_up (rotV R) 5 Q 0), bYr Γ (rotP o 1) (va_up (rotV R) 5 Q 1), bYr Γ (rotP o 2) (va_up (rotV R) 5 Q 2), bYr Γ (rotP o 3) (va_up (rotV R) 5 Q 3), bYr Γ (rotP o 4) (va_up (rotV R) 5 Q 4), bYr Γ (rotP o 5) (va_up (rotV R) 5 Q 5)] := hD
              refine lv_aload_n zx zb dX11_year_58 rfl (lv_at hl 0 rfl) ?_
              refine g_get (v := .ref (s 0)) XX hP 0 0 rfl rfl rfl iwX11 0 (by decide) fl_X11_30 rfl dX11_year_59 ?_
              refine g_get (v := .ref (c 0)) XX hP 1 0 rfl rfl rfl iwX8 0 (by decide) fl_X11_100 rfl dX11_year_62 ?_
              refine lv_aload_n zx zb dX11_year_65 rfl (lv_at hl 0 rfl) ?_
              refine g_get (v := .ref (s 0)) XX hP 0 0 rfl rfl rfl iwX11 0 (by decide) fl_X11_30 rfl dX11_year_66 ?_
              refine g_get (v := .ref (y 0)) XX hP 1 0 rfl rfl rfl iwX8 1 (by decide) fl_X11_82 rfl dX11_year_69 ?_
              refine lv_aload_n zx zb dX11_year_72 rfl (lv_at hl 0 rfl) ?_
              refine g_get (v := .ref (s 0)) XX hP 0 0 rfl rfl rfl iwX11 0 (by decide) fl_X11_30 rfl dX11_year_73 ?_
              refine g_get (v := .ref (c 0)) XX hP 1 0 rfl rfl rfl iwX8 0 (by decide) fl_X11_100 rfl dX11_year_76 ?_
              refine lv_aload_n zx zb dX11_year_79 rfl (lv_at hl 0 rfl) ?_
              refine g_get (v := .ref (s 0)) XX hP 0 0 rfl rfl rfl iwX11 0 (by decide) fl_X11_30 rfl dX11_year_80 ?_
              refine g_get (v := .ref (y 0)) XX hP 1 0 rfl rfl rfl iwX8 1 (by decide) fl_X11_82 rfl dX11_year_83 ?_
              refine g_get (v := .int Q.1) XX hP 5 0 rfl rfl rfl iwX10 0 (by decide) fl_X11_110 rfl dX11_year_86 ?_
              refine call_Vi (As := [.int Q.1]) (rest := [.ref (y 0), .ref (c 0)]) XX cv_X11_148 (c_X2_stormOf Γ l c k C Q.1 ) hP hD hS hA [2] (by decide) rfl (fun _ => rfl) 2 0 rfl rfl rfl rfl hl.1 rfl ⟨⟨by decide, by decide⟩, by decide, by decide⟩ (Nat.le_of_ble_eq_true rfl) dX11_year_89 (fun r_89 u H locs hw hP hD hS => ?_)
              have hw := hw.symm
              subst hw
              have hP : bP Γ [bTT Γ t s x V, bSt Γ s c y (rotP o) 6, bCo Γ c k C, bTs Γ c k tr, bKd Γ k, bYr Γ y Q, bYr Γ (rotP o 0) (va_up (rotV R) 5 Q 0), bYr Γ (rotP o 1) (va_up (rotV R) 5 Q 1), bYr Γ (rotP o 2) (va_up (rotV R) 5 Q 2), bYr Γ (rotP o 3) (va_up (rotV R) 5 Q 3), bYr Γ (rotP o 4) (va_up (rotV R) 5 Q 4), bYr Γ (rotP o 5) (va_up (rotV R) 5 Q 5)] H := hP
              have hD : bD AA [bTT Γ t s x V, bSt Γ s c y (rotP o) 6, bCo Γ c k C, bTs Γ c k tr, bKd Γ k, bYr Γ y Q, bYr Γ (rotP o 0) (va_up (rotV R) 5 Q 0), bYr Γ (rotP o 1) (va_up (rotV R) 5 Q 1), bYr Γ (rotP o 2) (va_up (rotV R) 5 Q 2), bYr Γ (rotP o 3) (va_up (rotV R) 5 Q 3), bYr Γ (rotP o 4) (va_up (rotV R) 5 Q 4), bYr Γ (rotP o 5) (va_up (rotV R) 5 Q 5)] := hD
              refine call_Vi (As := [.ref (y 0), .int (coStorm C Q.1)]) (rest := []) XX cv_X11_151 (c_X2_runYear Γ l c k C tr y Q (coStorm C Q.1) (hn) (htc) (hkd)) hP hD hS hA [2, 3, 4, 5] (by decide) rfl (fun _ => rfl) 2 0 rfl rfl rfl rfl hl.1 rfl ⟨⟨by decide, by decide⟩, by decide, by decide⟩ (Nat.le_of_ble_eq_true rfl) dX11_year_92 (fun r_92 u H locs hw hP hD hS => ?_)
              obtain ⟨hw1, hw2⟩ := hw
              have hw1 := hw1.symm
              have hw2 := hw2.symm
              subst hw1
              subst hw2
              have hP : bP Γ [bTT Γ t s x V, bSt Γ s c y (rotP o) 6, bCo Γ c k C, bTs Γ c k tr, bKd Γ k, bYr Γ y (coYear C tr Q (coStorm C Q.1)), bYr Γ (rotP o 0) (va_up (rotV R) 5 Q 0), bYr Γ (rotP o 1) (va_up (rotV R) 5 Q 1), bYr Γ (rotP o 2) (va_up (rotV R) 5 Q 2), bYr Γ (rotP o 3) (va_up (rotV R) 5 Q 3), bYr Γ (rotP o 4) (va_up (rotV R) 5 Q 4), bYr Γ (rotP o 5) (va_up (rotV R) 5 Q 5)] H := hP
              have hD : bD AA [bTT Γ t s x V, bSt Γ s c y (rotP o) 6, bCo Γ c k C, bTs Γ c k tr, bKd Γ k, bYr Γ y (coYear C tr Q (coStorm C Q.1)), bYr Γ (rotP o 0) (va_up (rotV R) 5 Q 0), bYr Γ (rotP o 1) (va_up (rotV R) 5 Q 1), bYr Γ (rotP o 2) (va_up (rotV R) 5 Q 2), bYr Γ (rotP o 3) (va_up (rotV R) 5 Q 3), bYr Γ (rotP o 4) (va_up (rotV R) 5 Q 4), bYr Γ (rotP o 5) (va_up (rotV R) 5 Q 5)] := hD
              refine lv_pop zx zb dX11_year_95 rfl ?_
              refine lv_iinc (v := nI (i + 1)) (lv' := [(2, .int (nI (i + 1))), (0, .ref (t 0)), (1, .int (nI j))]) zx zb dX11_year_96 hl (k := 2) rfl (nI_inc _ 1) (by decide) rfl (fun ls hl => ?_)
              refine lv_goto (tgt := 46) zx zb dX11_year_99 (by decide) ?_
              exact ih46 (i + 1) (coYear C tr Q (coStorm C Q.1)) 6 (va_up (rotV R) 5 Q) (rotP o) (by omega) (by omega) (by first | exact yr_b hQ | exact yr_a hQ hal) (by omega) _ _ hP hD hS _ (lv_sub hl [1, 2, 0] rfl)
            · have hal := hal
              refine lv_aload_n zx zb dX11_year_51 rfl (lv_at hl 0 rfl) ?_
              refine g_get (v := .ref (s 0)) XX hP 0 0 rfl rfl rfl iwX11 0 (by decide) fl_X11_30 rfl dX11_year_52 ?_
              refine call_Vv (As := []) (rest := []) XX cv_X11_145 (c_X8_keepPast_a Γ l s c y o g Q R (by omega)) hP hD hS hA [1, 5, 6, 7, 8, 9, 10, 11] (by decide) rfl (fun _ => rfl) 1 0 rfl rfl rfl rfl hl.1 rfl ⟨⟨by decide, by decide⟩, by decide, by decide⟩ (Nat.le_of_ble_eq_true rfl) dX11_year_55 (fun u H locs hw hP hD hS => ?_)
              have hw := hw.symm
              subst hw
              have hP : bP Γ [bTT Γ t s x V, bSt Γ s c y o (g + 1), bCo Γ c k C, bTs Γ c k tr, bKd Γ k, bYr Γ y Q, bYr Γ (o 0) (va_up R g Q 0), bYr Γ (o 1) (va_up R g Q 1), bYr Γ (o 2) (va_up R g Q 2), bYr Γ (o 3) (va_up R g Q 3), bYr Γ (o 4) (va_up R g Q 4), bYr Γ (o 5) (va_up R g Q 5)] H := hP
              have hD : bD AA [bTT Γ t s x V, bSt Γ s c y o (g + 1), bCo Γ c k C, bTs Γ c k tr, bKd Γ k, bYr Γ y Q, bYr Γ (o 0) (va_up R g Q 0), bYr Γ (o 1) (va_up R g Q 1), bYr Γ (o 2) (va_up R g Q 2), bYr Γ (o 3) (va_up R g Q 3), bYr Γ (o 4) (va_up R g Q 4), bYr Γ (o 5) (va_up R g Q 5)] := hD
              refine lv_aload_n zx zb dX11_year_58 rfl (lv_at hl 0 rfl) ?_
              refine g_get (v := .ref (s 0)) XX hP 0 0 rfl rfl rfl iwX11 0 (by decide) fl_X11_30 rfl dX11_year_59 ?_
              refine g_get (v := .ref (c 0)) XX hP 1 0 rfl rfl rfl iwX8 0 (by decide) fl_X11_100 rfl dX11_year_62 ?_
              refine lv_aload_n zx zb dX11_year_65 rfl (lv_at hl 0 rfl) ?_
              refine g_get (v := .ref (s 0)) XX hP 0 0 rfl rfl rfl iwX11 0 (by decide) fl_X11_30 rfl dX11_year_66 ?_
              refine g_get (v := .ref (y 0)) XX hP 1 0 rfl rfl rfl iwX8 1 (by decide) fl_X11_82 rfl dX11_year_69 ?_
              refine lv_aload_n zx zb dX11_year_72 rfl (lv_at hl 0 rfl) ?_
              refine g_get (v := .ref (s 0)) XX hP 0 0 rfl rfl rfl iwX11 0 (by decide) fl_X11_30 rfl dX11_year_73 ?_
              refine g_get (v := .ref (c 0)) XX hP 1 0 rfl rfl rfl iwX8 0 (by decide) fl_X11_100 rfl dX11_year_76 ?_
              refine lv_aload_n zx zb dX11_year_79 rfl (lv_at hl 0 rfl) ?_
              refine g_get (v := .ref (s 0)) XX hP 0 0 rfl rfl rfl iwX11 0 (by decide) fl_X11_30 rfl dX11_year_80 ?_
              refine g_get (v := .ref (y 0)) XX hP 1 0 rfl rfl rfl iwX8 1 (by decide) fl_X11_82 rfl dX11_year_83 ?_
              refine g_get (v := .int Q.1) XX hP 5 0 rfl rfl rfl iwX10 0 (by decide) fl_X11_110 rfl dX11_year_86 ?_
              refine call_Vi (As := [.int Q.1]) (rest := [.ref (y 0), .ref (c 0)]) XX cv_X11_148 (c_X2_stormOf Γ l c k C Q.1 ) hP hD hS hA [2] (by decide) rfl (fun _ => rfl) 2 0 rfl rfl rfl rfl hl.1 rfl ⟨⟨by decide, by decide⟩, by decide, by decide⟩ (Nat.le_of_ble_eq_true rfl) dX11_year_89 (fun r_89 u H locs hw hP hD hS => ?_)
              have hw := hw.symm
              subst hw
              have hP : bP Γ [bTT Γ t s x V, bSt Γ s c y o (g + 1), bCo Γ c k C, bTs Γ c k tr, bKd Γ k, bYr Γ y Q, bYr Γ (o 0) (va_up R g Q 0), bYr Γ (o 1) (va_up R g Q 1), bYr Γ (o 2) (va_up R g Q 2), bYr Γ (o 3) (va_up R g Q 3), bYr Γ (o 4) (va_up R g Q 4), bYr Γ (o 5) (va_up R g Q 5)] H := hP
              have hD : bD AA [bTT Γ t s x V, bSt Γ s c y o (g + 1), bCo Γ c k C, bTs Γ c k tr, bKd Γ k, bYr Γ y Q, bYr Γ (o 0) (va_up R g Q 0), bYr Γ (o 1) (va_up R g Q 1), bYr Γ (o 2) (va_up R g Q 2), bYr Γ (o 3) (va_up R g Q 3), bYr Γ (o 4) (va_up R g Q 4), bYr Γ (o 5) (va_up R g Q 5)] := hD
              refine call_Vi (As := [.ref (y 0), .int (coStorm C Q.1)]) (rest := []) XX cv_X11_151 (c_X2_runYear Γ l c k C tr y Q (coStorm C Q.1) (hn) (htc) (hkd)) hP hD hS hA [2, 3, 4, 5] (by decide) rfl (fun _ => rfl) 2 0 rfl rfl rfl rfl hl.1 rfl ⟨⟨by decide, by decide⟩, by decide, by decide⟩ (Nat.le_of_ble_eq_true rfl) dX11_year_92 (fun r_92 u H locs hw hP hD hS => ?_)
              obtain ⟨hw1, hw2⟩ := hw
              have hw1 := hw1.symm
              have hw2 := hw2.symm
              subst hw1
              subst hw2
              have hP : bP Γ [bTT Γ t s x V, bSt Γ s c y o (g + 1), bCo Γ c k C, bTs Γ c k tr, bKd Γ k, bYr Γ y (coYear C tr Q (coStorm C Q.1)), bYr Γ (o 0) (va_up R g Q 0), bYr Γ (o 1) (va_up R g Q 1), bYr Γ (o 2) (va_up R g Q 2), bYr Γ (o 3) (va_up R g Q 3), bYr Γ (o 4) (va_up R g Q 4), bYr Γ (o 5) (va_up R g Q 5)] H := hP
              have hD : bD AA [bTT Γ t s x V, bSt Γ s c y o (g + 1), bCo Γ c k C, bTs Γ c k tr, bKd Γ k, bYr Γ y (coYear C tr Q (coStorm C Q.1)), bYr Γ (o 0) (va_up R g Q 0), bYr Γ (o 1) (va_up R g Q 1), bYr Γ (o 2) (va_up R g Q 2), bYr Γ (o 3) (va_up R g Q 3), bYr Γ (o 4) (va_up R g Q 4), bYr Γ (o 5) (va_up R g Q 5)] := hD
              refine lv_pop zx zb dX11_year_95 rfl ?_
              refine lv_iinc (v := nI (i + 1)) (lv' := [(2, .int (nI (i + 1))), (0, .ref (t 0)), (1, .int (nI j))]) zx zb dX11_year_96 hl (k := 2) rfl (nI_inc _ 1) (by decide) rfl (fun ls hl => ?_)
              refine lv_goto (tgt := 46) zx zb dX11_year_99 (by decide) ?_
              exact ih46 (i + 1) (coYear C tr Q (coStorm C Q.1)) (g + 1) (va_up R g Q) o (by omega) (by omega) (by first | exact yr_b hQ | exact yr_a hQ hal) (by omega) _ _ hP hD hS _ (lv_sub hl [1, 2, 0] rfl)
      exact L46 _ 0 Y pc P p (by omega) (by omega) (rfl) (Nat.lt_succ_self _) _ _ hP hD hS _ (lv_sub hl [1, 2, 0] rfl)
    · have c_32 : ¬ (Y.1 ≤ (900 : Int32)) := c_32
      refine lv_aload_n zx zb dX11_year_35 rfl (lv_at hl 0 rfl) ?_
      refine lv_bipush (v := (-3)) zx zb dX11_year_36 (by decide) ?_
      refine lv_bipush (v := (-3)) zx zb dX11_year_38 (by decide) ?_
      refine call_Vi (As := [.int (-3), .int (-3)]) (rest := []) XX cv_X11_79 (c_X11_refused Γ l t s x V (-3) (-3) ) hP hD hS hA [0] (by decide) rfl (fun _ => rfl) 0 0 rfl rfl rfl rfl hl.1 rfl ⟨⟨by decide, by decide⟩, by decide, by decide⟩ (Nat.le_of_ble_eq_true rfl) dX11_year_40 (fun r_40 u H locs hw hP hD hS => ?_)
      obtain ⟨hw1, hw2⟩ := hw
      have hw1 := hw1.symm
      have hw2 := hw2.symm
      subst hw1
      subst hw2
      have hP : bP Γ [bTT Γ t s x (ttRef V (-3)), bSt Γ s c y p pc, bCo Γ c k C, bTs Γ c k tr, bKd Γ k, bYr Γ y Y, bYr Γ (p 0) (P 0), bYr Γ (p 1) (P 1), bYr Γ (p 2) (P 2), bYr Γ (p 3) (P 3), bYr Γ (p 4) (P 4), bYr Γ (p 5) (P 5)] H := hP
      have hD : bD AA [bTT Γ t s x (ttRef V (-3)), bSt Γ s c y p pc, bCo Γ c k C, bTs Γ c k tr, bKd Γ k, bYr Γ y Y, bYr Γ (p 0) (P 0), bYr Γ (p 1) (P 1), bYr Γ (p 2) (P 2), bYr Γ (p 3) (P 3), bYr Γ (p 4) (P 4), bYr Γ (p 5) (P 5)] := hD
      exact fin _ _ (-3) ((ttRef V (-3)), Y, pc, P, p) 43 _ dX11_year_43 (fun h => by cases h) (ye_bad2 c_7 c_32) hP hD hS
  · have c_7 : (wi n 1 9) = false := bI_0.mp c_7
    refine lv_aload_n zx zb dX11_year_10 rfl (lv_at hl 0 rfl) ?_
    refine lv_bipush (v := (-2)) zx zb dX11_year_11 (by decide) ?_
    refine lv_bipush (v := (-2)) zx zb dX11_year_13 (by decide) ?_
    refine call_Vi (As := [.int (-2), .int (-2)]) (rest := []) XX cv_X11_79 (c_X11_refused Γ l t s x V (-2) (-2) ) hP hD hS hA [0] (by decide) rfl (fun _ => rfl) 0 0 rfl rfl rfl rfl hl.1 rfl ⟨⟨by decide, by decide⟩, by decide, by decide⟩ (Nat.le_of_ble_eq_true rfl) dX11_year_15 (fun r_15 u H locs hw hP hD hS => ?_)
    obtain ⟨hw1, hw2⟩ := hw
    have hw1 := hw1.symm
    have hw2 := hw2.symm
    subst hw1
    subst hw2
    have hP : bP Γ [bTT Γ t s x (ttRef V (-2)), bSt Γ s c y p pc, bCo Γ c k C, bTs Γ c k tr, bKd Γ k, bYr Γ y Y, bYr Γ (p 0) (P 0), bYr Γ (p 1) (P 1), bYr Γ (p 2) (P 2), bYr Γ (p 3) (P 3), bYr Γ (p 4) (P 4), bYr Γ (p 5) (P 5)] H := hP
    have hD : bD AA [bTT Γ t s x (ttRef V (-2)), bSt Γ s c y p pc, bCo Γ c k C, bTs Γ c k tr, bKd Γ k, bYr Γ y Y, bYr Γ (p 0) (P 0), bYr Γ (p 1) (P 1), bYr Γ (p 2) (P 2), bYr Γ (p 3) (P 3), bYr Γ (p 4) (P 4), bYr Γ (p 5) (P 5)] := hD
    exact fin _ _ (-2) ((ttRef V (-2)), Y, pc, P, p) 18 _ dX11_year_18 (fun h => by cases h) (ye_bad1 c_7) hP hD hS
