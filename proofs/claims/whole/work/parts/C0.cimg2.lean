theorem cv_X11_297 : CWV RX11 297 RX8 yX8_copyOf cX8_copyOf 3 none 1 := ⟨cd_X8_copyOf, im_X8_copyOf, se_X8_X8_copyOf_X8_copyOf, in_X8, ml_X11_297, by decide +kernel⟩
set_option maxHeartbeats 4000000 in
set_option maxRecDepth 100000 in
theorem c_X11_from_old_0 (Γ : GG) (l : Launch) (t : Nat → Nat) (s : Nat → Nat) (x : Nat → Nat) (V : V3) (c : Nat → Nat) (k : Nat → Nat) (y : Nat → Nat) (p : Nat → Nat → Nat) (pc : Nat) (C : CoV) (tr : Nat → TrV) (Y : YrV) (P : Nat → YrV) (s2 : Nat → Nat) (d : Nat → Nat) (z : Nat → Nat) (p2 : Nat → Nat → Nat) (pc2 : Nat) (E : CoV) (tr2 : Nat → TrV) (Z : YrV) (P2 : Nat → YrV) (f : Nat → Option Nat) (htc : E.2.2.2.2.2.2.1 ≤ 6) (hpc : pc2 ≤ 6) (hf : f 0 = some (s2 0)) : Ci Γ l yX11_from cX11_from 2 (some (.int)) 3 70 0 0 [.ref (t 0), .int (nI 0)] [bTT Γ t s x V, bSt Γ s c y p pc, bCo Γ c k C, bTs Γ c k tr, bYr Γ y Y, bYr Γ (p 0) (P 0), bYr Γ (p 1) (P 1), bYr Γ (p 2) (P 2), bYr Γ (p 3) (P 3), bYr Γ (p 4) (P 4), bYr Γ (p 5) (P 5), bKd Γ k, [(t 1, .inl (Γ.2 3, 2, .inr (.inr (.inr (.inr f)))))], bSt Γ s2 d z p2 pc2, bCo Γ d k E, bTs Γ d k tr2, bYr Γ z Z, bYr Γ (p2 0) (P2 0), bYr Γ (p2 1) (P2 1), bYr Γ (p2 2) (P2 2), bYr Γ (p2 3) (P2 3), bYr Γ (p2 4) (P2 4), bYr Γ (p2 5) (P2 5)] (fun (r : Int32) (u : Unit) => r = nI 1) (fun (u : Unit) => [bTT Γ t s x V, bSt Γ s c y p pc2, bCo Γ c k E, bTs Γ c k (trCpy tr2 tr (coTc E)), bYr Γ y Z, bYr Γ (p 0) (yCpy P2 P pc2 0), bYr Γ (p 1) (yCpy P2 P pc2 1), bYr Γ (p 2) (yCpy P2 P pc2 2), bYr Γ (p 3) (yCpy P2 P pc2 3), bYr Γ (p 4) (yCpy P2 P pc2 4), bYr Γ (p 5) (yCpy P2 P pc2 5), bKd Γ k, [(t 1, .inl (Γ.2 3, 2, .inr (.inr (.inr (.inr f)))))], bSt Γ s2 d z p2 pc2, bCo Γ d k E, bTs Γ d k tr2, bYr Γ z Z, bYr Γ (p2 0) (P2 0), bYr Γ (p2 1) (P2 1), bYr Γ (p2 2) (P2 2), bYr Γ (p2 3) (P2 3), bYr Γ (p2 4) (P2 4), bYr Γ (p2 5) (P2 5)]) := by
  refine Ci.of (Or.inl rfl) (by decide) (Nat.le_of_ble_eq_true rfl) ?_
  intro pp ee ss mm bb me cd AA QQ XX hnm hA hP hD fin ls hl
  obtain ⟨zx, zb, hml, hown, hts, hK⟩ := id XX
  have hS : va_S AA ss.heap ss.heap [] := va_S.rf
  have hl : lv_has ls 2 [(0, .ref (t 0)), (1, .int (nI 0))] := hl
  refine lv_iload_n zx zb dX11_from_0 rfl (lv_at hl 1 rfl) ?_
  refine lv_iconst (v := nI 0) zx zb dX11_from_1 (by decide) ?_
  refine lv_iconst (v := nI 1) zx zb dX11_from_2 (by decide) ?_
  refine callR_Si (As := [.int (nI 0), .int (nI 0), .int (nI 1)]) (rest := []) XX cs_X11_75 (c_X11_within Γ l 0 0 1 ) hP hD hS hA nil_mem nil_D rfl hl.1 rfl ⟨⟨by decide, by decide⟩, by decide, by decide⟩ (Nat.le_of_ble_eq_true rfl) dX11_from_3 (fun r_3 H locs hw hP hS => ?_)
  have hw := hw.symm
  subst hw
  refine lv_if_ne (tgt := 18) zx zb dX11_from_6 (by decide) (fun c_6 => ?_) (fun c_6 => ?_)
  · have c_6 : (wi 0 0 1) = true := bI_ne c_6
    refine lv_aload_n zx zb dX11_from_18 rfl (lv_at hl 0 rfl) ?_
    refine g_get (v := .ref (t 1)) XX hP 0 0 rfl rfl rfl iwX11 2 (by decide) fl_X11_39 rfl dX11_from_19 ?_
    refine lv_iload_n zx zb dX11_from_22 rfl (lv_at hl 1 rfl) ?_
    refine g_aald (i := 0) (v := s2 0) XX hP 12 0 3 rfl rfl rfl (by decide) (by decide) hf dX11_from_23 ?_
    refine lv_ifnonnull (tgt := 36) zx zb dX11_from_24 (by decide) ?_
    refine lv_aload_n zx zb dX11_from_36 rfl (lv_at hl 0 rfl) ?_
    refine g_get (v := .ref (s 0)) XX hP 0 0 rfl rfl rfl iwX11 0 (by decide) fl_X11_30 rfl dX11_from_37 ?_
    refine lv_aload_n zx zb dX11_from_40 rfl (lv_at hl 0 rfl) ?_
    refine g_get (v := .ref (t 1)) XX hP 0 0 rfl rfl rfl iwX11 2 (by decide) fl_X11_39 rfl dX11_from_41 ?_
    refine lv_iload_n zx zb dX11_from_44 rfl (lv_at hl 1 rfl) ?_
    refine g_aald (i := 0) (v := s2 0) XX hP 12 0 3 rfl rfl rfl (by decide) (by decide) hf dX11_from_45 ?_
    refine call_Vv (As := [.ref (s2 0)]) (rest := []) XX cv_X11_297 (c_X8_copyOf Γ l s c y p k pc C tr Y P s2 d z p2 pc2 E tr2 Z P2 (htc) (hpc)) hP hD hS hA [1, 2, 3, 4, 5, 6, 7, 8, 9, 10, 13, 14, 15, 16, 17, 18, 19, 20, 21, 22] (by decide) rfl (fun _ => rfl) 1 0 rfl rfl rfl rfl hl.1 rfl ⟨⟨by decide, by decide⟩, by decide, by decide⟩ (Nat.le_of_ble_eq_true rfl) dX11_from_46 (fun u H locs hw hP hD hS => ?_)
    have sa_46 : ∀ a0 a1 a2 a3 a4 a5 a6 a7 a8 a9 a10 a11 a12 a13 a14 a15 a16 a17 a18 a19 a20 a21 a22 n0 n1 n2 n3 n4 n5 n6 n7 n8 n9 n10 n11 n12 n13 n14 n15 n16 n17 n18 n19, setAll [a0, a1, a2, a3, a4, a5, a6, a7, a8, a9, a10, a11, a12, a13, a14, a15, a16, a17, a18, a19, a20, a21, a22] [1, 2, 3, 4, 5, 6, 7, 8, 9, 10, 13, 14, 15, 16, 17, 18, 19, 20, 21, 22] [n0, n1, n2, n3, n4, n5, n6, n7, n8, n9, n10, n11, n12, n13, n14, n15, n16, n17, n18, n19] = [a0, n0, n1, n2, n3, n4, n5, n6, n7, n8, n9, a11, a12, n10, n11, n12, n13, n14, n15, n16, n17, n18, n19] := by intros; simp only [setAll, List.set_cons_zero, List.set_cons_succ]
    rw [sa_46] at hP hD
    obtain ⟨u_46, rfl⟩ : ∃ z, z = u := ⟨_, rfl⟩
    have w_46 := hw
    have hP : bP Γ [bTT Γ t s x V, bSt Γ s c y p pc2, bCo Γ c k E, bTs Γ c k (trCpy tr2 tr (coTc E)), bYr Γ y Z, bYr Γ (p 0) (yCpy P2 P pc2 0), bYr Γ (p 1) (yCpy P2 P pc2 1), bYr Γ (p 2) (yCpy P2 P pc2 2), bYr Γ (p 3) (yCpy P2 P pc2 3), bYr Γ (p 4) (yCpy P2 P pc2 4), bYr Γ (p 5) (yCpy P2 P pc2 5), bKd Γ k, [(t 1, .inl (Γ.2 3, 2, .inr (.inr (.inr (.inr f)))))], bSt Γ s2 d z p2 pc2, bCo Γ d k E, bTs Γ d k tr2, bYr Γ z Z, bYr Γ (p2 0) (P2 0), bYr Γ (p2 1) (P2 1), bYr Γ (p2 2) (P2 2), bYr Γ (p2 3) (P2 3), bYr Γ (p2 4) (P2 4), bYr Γ (p2 5) (P2 5)] H := hP
    have hD : bD AA [bTT Γ t s x V, bSt Γ s c y p pc2, bCo Γ c k E, bTs Γ c k (trCpy tr2 tr (coTc E)), bYr Γ y Z, bYr Γ (p 0) (yCpy P2 P pc2 0), bYr Γ (p 1) (yCpy P2 P pc2 1), bYr Γ (p 2) (yCpy P2 P pc2 2), bYr Γ (p 3) (yCpy P2 P pc2 3), bYr Γ (p 4) (yCpy P2 P pc2 4), bYr Γ (p 5) (yCpy P2 P pc2 5), bKd Γ k, [(t 1, .inl (Γ.2 3, 2, .inr (.inr (.inr (.inr f)))))], bSt Γ s2 d z p2 pc2, bCo Γ d k E, bTs Γ d k tr2, bYr Γ z Z, bYr Γ (p2 0) (P2 0), bYr Γ (p2 1) (P2 1), bYr Γ (p2 2) (P2 2), bYr Γ (p2 3) (P2 3), bYr Γ (p2 4) (P2 4), bYr Γ (p2 5) (P2 5)] := hD
    refine lv_iconst (v := nI 1) zx zb dX11_from_49 (by decide) ?_
    exact fin _ _ (nI 1) () 50 _ dX11_from_50 (fun h => by cases h) rfl hP hD hS
  · have c_6 : (wi 0 0 1) = false := bI_0.mp c_6
    exact absurd c_6 (by decide)
