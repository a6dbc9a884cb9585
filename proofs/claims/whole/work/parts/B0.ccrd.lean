theorem cv_X11_127 : CWV RX11 127 RX7 yX7_parse cX7_parse 3 (some (.int)) 0 := ⟨cd_X7_parse, im_X7_parse, se_X7_X7_parse_X7_parse, in_X7, ml_X11_127, by decide +kernel⟩
theorem cv_X11_134 : CWV RX11 134 RX7 yX7_tellItem cX7_tellItem 8 (some (.int)) 2 := ⟨cd_X7_tellItem, im_X7_tellItem, se_X7_X7_tellItem_X7_tellItem, in_X7, ml_X11_134, by decide +kernel⟩
set_option maxHeartbeats 4000000 in
set_option maxRecDepth 100000 in
theorem c_X11_read (Γ : GG) (l : Launch) (t : Nat → Nat) (s : Nat → Nat) (x : Nat → Nat) (V : V3) (c : Nat → Nat) (k : Nat → Nat) (y : Nat → Nat) (p : Nat → Nat → Nat) (pc : Nat) (C : CoV) (tr : Nat → TrV) (Y : YrV) (d : Nat → Nat) (z : Nat → Nat) (p2 : Nat → Nat → Nat) (pc2 : Nat) (E : CoV) (T : Nat → TrV) (Z : YrV) (L : ScV) (K : AK) (hl0 : L.1 ≤ 150) (hB9 : tB (E, T, Z)) : Cia K Γ l yX11_read cX11_read 3 (some (.int)) 9 196 0 0 [.ref (t 0)] [bTT Γ t s x V, bSt Γ s c y p pc, bCo Γ c k C, bTs Γ c k tr, bKd Γ k, bYr Γ y Y, bSt Γ x d z p2 pc2, bCo Γ d k E, bTs Γ d k T, bYr Γ z Z, bSc Γ t L] (fun (r : Int32) (u : V3 × Nat × CoV × (Nat → TrV) × YrV × CoV × (Nat → TrV) × YrV × ScV) => (u.1 = V ∧ u.2.2.2.2.2.2.2.2.1 = L.1 ∧ u.2.2.2.2.2.2.2.2.2.2.2.2.1 = L.2.2.2.2.1) ∧ tB (u.2.2.2.2.2.1, u.2.2.2.2.2.2.1, u.2.2.2.2.2.2.2.1) ∧ rdC L.2.2.2.2.1 L.1 pc (C, tr, Y) (E, T, Z) r u.2.1 (u.2.2.1, u.2.2.2.1, u.2.2.2.2.1)) (fun (u : V3 × Nat × CoV × (Nat → TrV) × YrV × CoV × (Nat → TrV) × YrV × ScV) => [bTT Γ t s x u.1, bSt Γ s c y p u.2.1, bCo Γ c k u.2.2.1, bTs Γ c k u.2.2.2.1, bKd Γ k, bYr Γ y u.2.2.2.2.1, bSt Γ x d z p2 pc2, bCo Γ d k u.2.2.2.2.2.1, bTs Γ d k u.2.2.2.2.2.2.1, bYr Γ z u.2.2.2.2.2.2.2.1, bSc Γ t u.2.2.2.2.2.2.2.2]) := by
  refine Cia.of (ty := .int) rfl (by decide) (Nat.le_of_ble_eq_true rfl) ?_
  intro pp ee ss mm bb me cd AA QQ XX hLT hnm hA hP hD fin ls hl
  obtain ⟨zx, zb, hml, hown, hts, hK⟩ := id XX
  have hS : va_S AA ss.heap ss.heap [] := va_S.rf
  have hl : lv_has ls 3 [(0, .ref (t 0))] := hl
  refine lv_aload_n zx zb dX11_read_0 rfl (lv_at hl 0 rfl) ?_
  refine g_get (v := .ref (t 2)) XX hP 0 0 rfl rfl rfl iwX11 3 (by decide) fl_X11_46 rfl dX11_read_1 ?_
  refine call_ViA (As := []) (rest := []) XX hLT cv_X11_127 (c_X7_parse Γ l t L K (hl0)) hP hD hS hA [10] (by decide) rfl (fun _ => rfl) 10 0 rfl rfl rfl rfl hl.1 rfl ⟨⟨by decide, by decide⟩, by decide, by decide⟩ (Nat.le_of_ble_eq_true rfl) dX11_read_4 (fun r_4 u H locs hw hP hD hS => ?_)
  obtain ⟨u_4, rfl⟩ : ∃ z, z = u := ⟨_, rfl⟩
  have w_4 := hw
  have hP : bP Γ [bTT Γ t s x V, bSt Γ s c y p pc, bCo Γ c k C, bTs Γ c k tr, bKd Γ k, bYr Γ y Y, bSt Γ x d z p2 pc2, bCo Γ d k E, bTs Γ d k T, bYr Γ z Z, bSc Γ t u_4] H := hP
  have hD : bD AA [bTT Γ t s x V, bSt Γ s c y p pc, bCo Γ c k C, bTs Γ c k tr, bKd Γ k, bYr Γ y Y, bSt Γ x d z p2 pc2, bCo Γ d k E, bTs Γ d k T, bYr Γ z Z, bSc Γ t u_4] := hD
  refine lv_istore_n (lv' := [(1, .int r_4), (0, .ref (t 0))]) zx zb dX11_read_7 rfl hl (by decide) rfl (fun ls hl => ?_)
  refine lv_iload_n zx zb dX11_read_8 rfl (lv_at hl 0 rfl) ?_
  refine lv_iconst (v := (-1)) zx zb dX11_read_9 (by decide) ?_
  refine lv_icmp_eq (tgt := 18) zx zb dX11_read_10 (by decide) (fun c_10 => ?_) (fun c_10 => ?_)
  · have c_10 : r_4 = (-1) := c_10
    obtain ⟨⟨e1, e2⟩, S, hE, er, hok⟩ := w_4
    have hk1 : pOk L.2.2.2.2.1 L.1 S = true := by cases z : pOk L.2.2.2.2.1 L.1 S with | true => rfl | false => (rw [z, c_10, if_neg Bool.false_ne_true] at er; have h9 := nxt_le (g := L.2.2.2.2.1) (pR_I hE.1).1; exact absurd er.symm (nI_m1 (by omega)))
    have hR := hok hk1
    have hpI := pR_I hE.1
    have hp9 : S.1 ≤ L.1 := hpI.1
    have hR1 : u_4.2.1 = S.2.2.1 := hR.1
    have hm49 : 6 * S.2.2.1 ≤ 150 := by rcases hpI.2.1 with q | q <;> omega
    refine lv_iconst (v := nI 0) zx zb dX11_read_18 (by decide) ?_
    refine lv_istore_n (lv' := [(2, .int (nI 0)), (1, .int r_4), (0, .ref (t 0))]) zx zb dX11_read_19 rfl hl (by decide) rfl (fun ls hl => ?_)
    have L20 : ∀ (nn : Nat) (i : Nat), (i ≤ S.2.2.1) → (∀ j, j < i → refP S (E, T, Z) j = false) → S.2.2.1 - i < nn → ∀ (H : Heap) (locs : List Loc), bP Γ [bTT Γ t s x V, bSt Γ s c y p pc, bCo Γ c k C, bTs Γ c k tr, bKd Γ k, bYr Γ y Y, bSt Γ x d z p2 pc2, bCo Γ d k ((tIs S (E, T, Z) i).1), bTs Γ d k ((tIs S (E, T, Z) i).2.1), bYr Γ z ((tIs S (E, T, Z) i).2.2), bSc Γ t u_4] H → bD AA [bTT Γ t s x V, bSt Γ s c y p pc, bCo Γ c k C, bTs Γ c k tr, bKd Γ k, bYr Γ y Y, bSt Γ x d z p2 pc2, bCo Γ d k ((tIs S (E, T, Z) i).1), bTs Γ d k ((tIs S (E, T, Z) i).2.1), bYr Γ z ((tIs S (E, T, Z) i).2.2), bSc Γ t u_4] → va_S AA ss.heap H locs → ∀ (ls : Array Slot), lv_has ls 3 [(0, .ref (t 0)), (2, .int (nI i))] → W pp l ee { frames := 9, cells := 0, slots := 0, locals := 196 } ss mm [.ref (t 0)].toArray bb me cd H locs 0 0 QQ (F0 mm 20 ls []) := by
      intro nn
      induction nn with
      | zero => intro i hi hp hm; exact absurd hm (Nat.not_lt_zero _)
      | succ nn ih20 =>
        intro i hi hp hm20 H locs hP hD hS ls hl
        refine lv_iload_n zx zb dX11_read_20 rfl (lv_at hl 1 rfl) ?_
        refine lv_aload_n zx zb dX11_read_21 rfl (lv_at hl 0 rfl) ?_
        refine g_get (v := .ref (t 2)) XX hP 0 0 rfl rfl rfl iwX11 3 (by decide) fl_X11_46 rfl dX11_read_22 ?_
        refine g_get (v := .int (nI (u_4.2.1))) XX hP 10 0 rfl rfl rfl iwX7 2 (by decide) fl_X11_131 rfl dX11_read_25 ?_
        refine lv_icmp_ge (tgt := 58) zx zb dX11_read_28 (by decide) (fun c_28 => ?_) (fun c_28 => ?_)
        · have c_28 : u_4.2.1 ≤ i := (nI_leI (a := u_4.2.1) (b := i) (by omega) (by omega)).mp c_28
          have hiE : i = S.2.2.1 := by omega
          have htn := told_n (V := V) (m := u_4.2.1) (pc := pc) (by omega)
          refine lv_aload_n zx zb dX11_read_58 rfl (lv_at hl 0 rfl) ?_
          refine g_get (v := .ref (s 0)) XX hP 0 0 rfl rfl rfl iwX11 0 (by decide) fl_X11_30 rfl dX11_read_59 ?_
          refine g_get (v := .ref (c 0)) XX hP 1 0 rfl rfl rfl iwX8 0 (by decide) fl_X11_100 rfl dX11_read_62 ?_
          refine lv_aload_n zx zb dX11_read_65 rfl (lv_at hl 0 rfl) ?_
          refine g_get (v := .ref (x 0)) XX hP 0 0 rfl rfl rfl iwX11 1 (by decide) fl_X11_36 rfl dX11_read_66 ?_
          refine g_get (v := .ref (d 0)) XX hP 6 0 rfl rfl rfl iwX8 0 (by decide) fl_X11_100 rfl dX11_read_69 ?_
          refine call_Vv (As := [.ref (d 0)]) (rest := []) XX cv_X11_138 (c_X2_copyOf Γ l c k C tr d ((tIs S (E, T, Z) i).1) ((tIs S (E, T, Z) i).2.1) ((tB_is hB9).2.1)) hP hD hS hA [2, 3, 7, 8] (by decide) rfl (fun _ => rfl) 2 0 rfl rfl rfl rfl hl.1 rfl ⟨⟨by decide, by decide⟩, by decide, by decide⟩ (Nat.le_of_ble_eq_true rfl) dX11_read_72 (fun u H locs hw hP hD hS => ?_)
          have hw := hw.symm
          subst hw
          have hP : bP Γ [bTT Γ t s x V, bSt Γ s c y p pc, bCo Γ c k ((((tIs S (E, T, Z) i).1), trCpy ((tIs S (E, T, Z) i).2.1) tr (coTc ((tIs S (E, T, Z) i).1))).1), bTs Γ c k ((((tIs S (E, T, Z) i).1), trCpy ((tIs S (E, T, Z) i).2.1) tr (coTc ((tIs S (E, T, Z) i).1))).2), bKd Γ k, bYr Γ y Y, bSt Γ x d z p2 pc2, bCo Γ d k ((tIs S (E, T, Z) i).1), bTs Γ d k ((tIs S (E, T, Z) i).2.1), bYr Γ z ((tIs S (E, T, Z) i).2.2), bSc Γ t u_4] H := hP
          have hD : bD AA [bTT Γ t s x V, bSt Γ s c y p pc, bCo Γ c k ((((tIs S (E, T, Z) i).1), trCpy ((tIs S (E, T, Z) i).2.1) tr (coTc ((tIs S (E, T, Z) i).1))).1), bTs Γ c k ((((tIs S (E, T, Z) i).1), trCpy ((tIs S (E, T, Z) i).2.1) tr (coTc ((tIs S (E, T, Z) i).1))).2), bKd Γ k, bYr Γ y Y, bSt Γ x d z p2 pc2, bCo Γ d k ((tIs S (E, T, Z) i).1), bTs Γ d k ((tIs S (E, T, Z) i).2.1), bYr Γ z ((tIs S (E, T, Z) i).2.2), bSc Γ t u_4] := hD
          refine lv_aload_n zx zb dX11_read_75 rfl (lv_at hl 0 rfl) ?_
          refine g_get (v := .ref (s 0)) XX hP 0 0 rfl rfl rfl iwX11 0 (by decide) fl_X11_30 rfl dX11_read_76 ?_
          refine g_get (v := .ref (y 0)) XX hP 1 0 rfl rfl rfl iwX8 1 (by decide) fl_X11_82 rfl dX11_read_79 ?_
          refine lv_aload_n zx zb dX11_read_82 rfl (lv_at hl 0 rfl) ?_
          refine g_get (v := .ref (x 0)) XX hP 0 0 rfl rfl rfl iwX11 1 (by decide) fl_X11_36 rfl dX11_read_83 ?_
          refine g_get (v := .ref (z 0)) XX hP 6 0 rfl rfl rfl iwX8 1 (by decide) fl_X11_82 rfl dX11_read_86 ?_
          refine call_Vv (As := [.ref (z 0)]) (rest := []) XX cv_X11_142 (c_X10_copyOf Γ l y Y z ((tIs S (E, T, Z) i).2.2) ) hP hD hS hA [5, 9] (by decide) rfl (fun _ => rfl) 5 0 rfl rfl rfl rfl hl.1 rfl ⟨⟨by decide, by decide⟩, by decide, by decide⟩ (Nat.le_of_ble_eq_true rfl) dX11_read_89 (fun u H locs hw hP hD hS => ?_)
          have hw := hw.symm
          subst hw
          have hP : bP Γ [bTT Γ t s x V, bSt Γ s c y p pc, bCo Γ c k ((((tIs S (E, T, Z) i).1), trCpy ((tIs S (E, T, Z) i).2.1) tr (coTc ((tIs S (E, T, Z) i).1))).1), bTs Γ c k ((((tIs S (E, T, Z) i).1), trCpy ((tIs S (E, T, Z) i).2.1) tr (coTc ((tIs S (E, T, Z) i).1))).2), bKd Γ k, bYr Γ y ((tIs S (E, T, Z) i).2.2), bSt Γ x d z p2 pc2, bCo Γ d k ((tIs S (E, T, Z) i).1), bTs Γ d k ((tIs S (E, T, Z) i).2.1), bYr Γ z ((tIs S (E, T, Z) i).2.2), bSc Γ t u_4] H := hP
          have hD : bD AA [bTT Γ t s x V, bSt Γ s c y p pc, bCo Γ c k ((((tIs S (E, T, Z) i).1), trCpy ((tIs S (E, T, Z) i).2.1) tr (coTc ((tIs S (E, T, Z) i).1))).1), bTs Γ c k ((((tIs S (E, T, Z) i).1), trCpy ((tIs S (E, T, Z) i).2.1) tr (coTc ((tIs S (E, T, Z) i).1))).2), bKd Γ k, bYr Γ y ((tIs S (E, T, Z) i).2.2), bSt Γ x d z p2 pc2, bCo Γ d k ((tIs S (E, T, Z) i).1), bTs Γ d k ((tIs S (E, T, Z) i).2.1), bYr Γ z ((tIs S (E, T, Z) i).2.2), bSc Γ t u_4] := hD
          refine lv_aload_n zx zb dX11_read_92 rfl (lv_at hl 0 rfl) ?_
          refine lv_aload_n zx zb dX11_read_93 rfl (lv_at hl 0 rfl) ?_
          refine g_get (v := .ref (t 2)) XX hP 0 0 rfl rfl rfl iwX11 3 (by decide) fl_X11_46 rfl dX11_read_94 ?_
          refine g_get (v := .int (nI (u_4.2.1))) XX hP 10 0 rfl rfl rfl iwX7 2 (by decide) fl_X11_131 rfl dX11_read_97 ?_
          refine call_Vi (As := [.int (nI (u_4.2.1))]) (rest := []) XX cv_X11_58 (c_X11_told Γ l t s x V c y p pc (nI (u_4.2.1)) ) hP hD hS hA [0, 1] (by decide) rfl (fun _ => rfl) 0 0 rfl rfl rfl rfl hl.1 rfl ⟨⟨by decide, by decide⟩, by decide, by decide⟩ (Nat.le_of_ble_eq_true rfl) dX11_read_100 (fun r_100 u H locs hw hP hD hS => ?_)
          obtain ⟨hw1, hw2⟩ := hw
          have hw1 := hw1.symm
          have hw2 := hw2.symm
          subst hw1
          subst hw2
          have hP : bP Γ [bTT Γ t s x ((toldV V (nI (u_4.2.1)), toldP (nI (u_4.2.1)) pc).1), bSt Γ s c y p ((toldV V (nI (u_4.2.1)), toldP (nI (u_4.2.1)) pc).2), bCo Γ c k ((((tIs S (E, T, Z) i).1), trCpy ((tIs S (E, T, Z) i).2.1) tr (coTc ((tIs S (E, T, Z) i).1))).1), bTs Γ c k ((((tIs S (E, T, Z) i).1), trCpy ((tIs S (E, T, Z) i).2.1) tr (coTc ((tIs S (E, T, Z) i).1))).2), bKd Γ k, bYr Γ y ((tIs S (E, T, Z) i).2.2), bSt Γ x d z p2 pc2, bCo Γ d k ((tIs S (E, T, Z) i).1), bTs Γ d k ((tIs S (E, T, Z) i).2.1), bYr Γ z ((tIs S (E, T, Z) i).2.2), bSc Γ t u_4] H := hP
          have hD : bD AA [bTT Γ t s x ((toldV V (nI (u_4.2.1)), toldP (nI (u_4.2.1)) pc).1), bSt Γ s c y p ((toldV V (nI (u_4.2.1)), toldP (nI (u_4.2.1)) pc).2), bCo Γ c k ((((tIs S (E, T, Z) i).1), trCpy ((tIs S (E, T, Z) i).2.1) tr (coTc ((tIs S (E, T, Z) i).1))).1), bTs Γ c k ((((tIs S (E, T, Z) i).1), trCpy ((tIs S (E, T, Z) i).2.1) tr (coTc ((tIs S (E, T, Z) i).1))).2), bKd Γ k, bYr Γ y ((tIs S (E, T, Z) i).2.2), bSt Γ x d z p2 pc2, bCo Γ d k ((tIs S (E, T, Z) i).1), bTs Γ d k ((tIs S (E, T, Z) i).2.1), bYr Γ z ((tIs S (E, T, Z) i).2.2), bSc Γ t u_4] := hD
          exact fin _ _ (nI (u_4.2.1)) ((toldV V (nI (u_4.2.1)), toldP (nI (u_4.2.1)) pc).1, (toldV V (nI (u_4.2.1)), toldP (nI (u_4.2.1)) pc).2, (((tIs S (E, T, Z) i).1), trCpy ((tIs S (E, T, Z) i).2.1) tr (coTc ((tIs S (E, T, Z) i).1))).1, (((tIs S (E, T, Z) i).1), trCpy ((tIs S (E, T, Z) i).2.1) tr (coTc ((tIs S (E, T, Z) i).1))).2, ((tIs S (E, T, Z) i).2.2), ((tIs S (E, T, Z) i).1), ((tIs S (E, T, Z) i).2.1), ((tIs S (E, T, Z) i).2.2), u_4) 103 _ dX11_read_103 (rfl) (⟨⟨htn.1, e1, e2⟩, tB_is hB9, by show rdC _ _ _ _ _ _ (toldP (nI u_4.2.1) pc) _; rw [htn.2]; exact cr_ok hE hk1 hiE hR1 hp⟩) hP hD hS
        · have c_28 : ¬ (u_4.2.1 ≤ i) := fun h => c_28 ((nI_leI (a := u_4.2.1) (b := i) (by omega) (by omega)).mpr h)
          have hii : i < S.2.2.1 := by omega
          refine lv_aload_n zx zb dX11_read_31 rfl (lv_at hl 0 rfl) ?_
          refine g_get (v := .ref (t 2)) XX hP 0 0 rfl rfl rfl iwX11 3 (by decide) fl_X11_46 rfl dX11_read_32 ?_
          refine lv_aload_n zx zb dX11_read_35 rfl (lv_at hl 0 rfl) ?_
          refine g_get (v := .ref (x 0)) XX hP 0 0 rfl rfl rfl iwX11 1 (by decide) fl_X11_36 rfl dX11_read_36 ?_
          refine lv_iload_n zx zb dX11_read_39 rfl (lv_at hl 1 rfl) ?_
          refine call_Vi (As := [.ref (x 0), .int (nI i)]) (rest := []) XX cv_X11_134 (c_X7_tellItem Γ l t u_4 x d k z p2 pc2 ((tIs S (E, T, Z) i).1) ((tIs S (E, T, Z) i).2.1) ((tIs S (E, T, Z) i).2.2) i (S.2.2.2.1 i) (S.2.2.2.2 i) (tB_is hB9) (by omega) (hpI.2.2 i hii) ((hR.2.2.1 i hii).1) (fun j hj => by rw [Nat.mul_comm]; exact (hR.2.2.1 i hii).2 j hj)) hP hD hS hA [10, 6, 7, 8, 4, 9] (by decide) rfl (fun _ => rfl) 10 0 rfl rfl rfl rfl hl.1 rfl ⟨⟨by decide, by decide⟩, by decide, by decide⟩ (Nat.le_of_ble_eq_true rfl) dX11_read_40 (fun r_40 u H locs hw hP hD hS => ?_)
          obtain ⟨hw1, hw2⟩ := hw
          have hw1 := hw1.symm
          have hw2 := hw2.symm
          subst hw1
          subst hw2
          have hP : bP Γ [bTT Γ t s x V, bSt Γ s c y p pc, bCo Γ c k C, bTs Γ c k tr, bKd Γ k, bYr Γ y Y, bSt Γ x d z p2 pc2, bCo Γ d k ((tIX (S.2.2.2.1 i) (S.2.2.2.2 i) (((tIs S (E, T, Z) i).1), ((tIs S (E, T, Z) i).2.1), ((tIs S (E, T, Z) i).2.2))).1), bTs Γ d k ((tIX (S.2.2.2.1 i) (S.2.2.2.2 i) (((tIs S (E, T, Z) i).1), ((tIs S (E, T, Z) i).2.1), ((tIs S (E, T, Z) i).2.2))).2.1), bYr Γ z ((tIX (S.2.2.2.1 i) (S.2.2.2.2 i) (((tIs S (E, T, Z) i).1), ((tIs S (E, T, Z) i).2.1), ((tIs S (E, T, Z) i).2.2))).2.2), bSc Γ t u_4] H := hP
          have hD : bD AA [bTT Γ t s x V, bSt Γ s c y p pc, bCo Γ c k C, bTs Γ c k tr, bKd Γ k, bYr Γ y Y, bSt Γ x d z p2 pc2, bCo Γ d k ((tIX (S.2.2.2.1 i) (S.2.2.2.2 i) (((tIs S (E, T, Z) i).1), ((tIs S (E, T, Z) i).2.1), ((tIs S (E, T, Z) i).2.2))).1), bTs Γ d k ((tIX (S.2.2.2.1 i) (S.2.2.2.2 i) (((tIs S (E, T, Z) i).1), ((tIs S (E, T, Z) i).2.1), ((tIs S (E, T, Z) i).2.2))).2.1), bYr Γ z ((tIX (S.2.2.2.1 i) (S.2.2.2.2 i) (((tIs S (E, T, Z) i).1), ((tIs S (E, T, Z) i).2.1), ((tIs S (E, T, Z) i).2.2))).2.2), bSc Γ t u_4] := hD
          refine lv_if_ge (tgt := 52) zx zb dX11_read_43 (by decide) (fun c_43 => ?_) (fun c_43 => ?_)
          · have c_43 : (0 : Int32) ≤ (tIR (S.2.2.2.1 i) (S.2.2.2.2 i) (((tIs S (E, T, Z) i).1), ((tIs S (E, T, Z) i).2.1), ((tIs S (E, T, Z) i).2.2))) := c_43
            refine lv_iinc (v := nI (i + 1)) (lv' := [(2, .int (nI (i + 1))), (0, .ref (t 0))]) zx zb dX11_read_52 hl (k := 1) rfl (nI_inc _ 1) (by decide) rfl (fun ls hl => ?_)
            refine lv_goto (tgt := 20) zx zb dX11_read_55 (by decide) ?_
            exact ih20 (i + 1) (by omega) (lt_s hp (decide_eq_false (Int32.not_lt.mpr c_43))) (by omega) _ _ hP hD hS _ (lv_sub hl [1, 0] rfl)
          · have c_43 : ¬ ((0 : Int32) ≤ (tIR (S.2.2.2.1 i) (S.2.2.2.2 i) (((tIs S (E, T, Z) i).1), ((tIs S (E, T, Z) i).2.1), ((tIs S (E, T, Z) i).2.2)))) := c_43
            refine lv_sipush (v := (-1000)) zx zb dX11_read_46 (by decide) ?_
            refine lv_iload_n zx zb dX11_read_49 rfl (lv_at hl 1 rfl) ?_
            refine lv_isub zx zb dX11_read_50 ?_
            exact fin _ _ ((-1000) - (nI i)) (V, pc, C, tr, Y, (tIX (S.2.2.2.1 i) (S.2.2.2.2 i) (((tIs S (E, T, Z) i).1), ((tIs S (E, T, Z) i).2.1), ((tIs S (E, T, Z) i).2.2))).1, (tIX (S.2.2.2.1 i) (S.2.2.2.2 i) (((tIs S (E, T, Z) i).1), ((tIs S (E, T, Z) i).2.1), ((tIs S (E, T, Z) i).2.2))).2.1, (tIX (S.2.2.2.1 i) (S.2.2.2.2 i) (((tIs S (E, T, Z) i).1), ((tIs S (E, T, Z) i).2.1), ((tIs S (E, T, Z) i).2.2))).2.2, u_4) 51 _ dX11_read_51 (rfl) (⟨⟨rfl, e1, e2⟩, tB_is (i := i + 1) hB9, cr_no hE hk1 hii hp (decide_eq_true (Int32.not_le.mp c_43))⟩) hP hD hS
    exact L20 _ 0 (by omega) (lt_0) (Nat.lt_succ_self _) _ _ hP hD hS _ (lv_sub hl [2, 0] rfl)
  · have c_10 : ¬ (r_4 = (-1)) := c_10
    obtain ⟨⟨e1, e2⟩, S, hE, er, hok⟩ := w_4
    have hk0 : pOk L.2.2.2.2.1 L.1 S = false := by cases z : pOk L.2.2.2.2.1 L.1 S with | false => rfl | true => (rw [z] at er; exact absurd er c_10)
    refine lv_bipush (v := (-10)) zx zb dX11_read_13 (by decide) ?_
    refine lv_iload_n zx zb dX11_read_15 rfl (lv_at hl 0 rfl) ?_
    refine lv_isub zx zb dX11_read_16 ?_
    exact fin _ _ ((-10) - r_4) (V, pc, C, tr, Y, E, T, Z, u_4) 17 _ dX11_read_17 (rfl) (⟨⟨rfl, e1, e2⟩, hB9, cr_f hE hk0 (by rw [er, hk0]; rfl)⟩) hP hD hS
