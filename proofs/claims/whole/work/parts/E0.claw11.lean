theorem cv_L_101 : CWV RL 101 RX12 yX12_offer cX12_offer 10 (some (.int)) 4 := ⟨cd_X12_offer, im_X12_offer, se_X12_X12_offer_X12_offer, in_X12, ml_L_101, by decide +kernel⟩
theorem cv_L_62 : CWV RL 62 RX11 yX11_year cX11_year 3 (some (.int)) 1 := ⟨cd_X11_year, im_X11_year, se_X11_X11_year_X11_year, in_X11, ml_L_62, by decide +kernel⟩
theorem cv_L_65 : CWV RL 65 RX12 yX12_year cX12_year 3 (some (.int)) 1 := ⟨cd_X12_year, im_X12_year, se_X12_X12_year_X12_year, in_X12, ml_L_65, by decide +kernel⟩
theorem cv_L_66 : CWV RL 66 RX11 yX11_undo cX11_undo 1 (some (.int)) 0 := ⟨cd_X11_undo, im_X11_undo, se_X11_X11_undo_X11_undo, in_X11, ml_L_66, by decide +kernel⟩
theorem cv_L_69 : CWV RL 69 RX12 yX12_undo cX12_undo 3 (some (.int)) 0 := ⟨cd_X12_undo, im_X12_undo, se_X12_X12_undo_X12_undo, in_X12, ml_L_69, by decide +kernel⟩
theorem cv_L_98 : CWV RL 98 RX11 yX11_offer cX11_offer 6 (some (.int)) 4 := ⟨cd_X11_offer, im_X11_offer, se_X11_X11_offer_X11_offer, in_X11, ml_L_98, by decide +kernel⟩
set_option maxHeartbeats 4000000 in
set_option maxRecDepth 100000 in
theorem law_year {pp : Program} {ee : Env} {ss : State} {mm : MethodId} {bb : List Frame} {me : Method} {cd : Code} {QQ : State → Prop} {AA : Nat → Prop} (Γ : GG) (l : Launch) {sa sn : Nat} {xs : Nat → Int32} {t m : Nat → Nat} {H : Heap} {locs : List Loc} {cells slots i : Nat} {ls : Array Slot} (XX : Cx pp ss mm #[.ref sa] cd cL_law 4 RL Γ) (hX : va_X sa sn xs ss ss.heap) (hbl : sa < ss.heap.size) (hbA : ¬ AA sa) (hA : ∀ q, ss.heap.size ≤ q → AA q) (hi : i + 7 ≤ sn) (hn : sn ≤ 448) (hcc : cells ≤ 590000) (hsl : slots ≤ 7000000) (hJ0 : LJ Γ AA ss.heap t m H locs) (hl : lv_has ls 4 [(0, .ref sa), (1, .ref (t 0)), (2, .ref (m 0)), (3, .int (nI i))]) (kk : ∀ (H : Heap) (locs : List Loc) (ls : Array Slot), LJ Γ AA ss.heap t m H locs → lv_has ls 4 [(0, .ref sa), (1, .ref (t 0)), (2, .ref (m 0)), (3, .int (nI (i + 7)))] → W pp l ee room_1 ss mm #[.ref sa] bb me cd H locs cells slots QQ (F0 mm 18 ls [])) : W pp l ee room_1 ss mm #[.ref sa] bb me cd H locs cells slots QQ (F0 mm 531 ls []) := by
  obtain ⟨s, x, c, k, y, p, d, z, p2, V, pc, C, tr, Y, P, pc2, E, T, Z, P2, f, L, tl, I0, I1, M, b, im, kp, e4, e5, rf, g, e8, e9, e10, ⟨hJ, hr, hB, ⟨hM, hLM, hL0, hg⟩, hF, hI0, hI1⟩, hP, hD, hS⟩ := hJ0
  obtain ⟨yy, hyy, hyb⟩ := hJ.1.2.2.2.2.2
  obtain ⟨zx, zb, hml, hown, hts, hK⟩ := id XX
  have hP : bP Γ [bTT Γ t s x V, bKd Γ k, bSt Γ s c y p pc, bCo Γ c k C, bTs Γ c k tr, bYr Γ y Y, bYr Γ (p 0) (P 0), bYr Γ (p 1) (P 1), bYr Γ (p 2) (P 2), bYr Γ (p 3) (P 3), bYr Γ (p 4) (P 4), bYr Γ (p 5) (P 5), bSt Γ x d z p2 pc2, bCo Γ d k E, bTs Γ d k T, bYr Γ z Z, bYr Γ (p2 0) (P2 0), bYr Γ (p2 1) (P2 1), bYr Γ (p2 2) (P2 2), bYr Γ (p2 3) (P2 3), bYr Γ (p2 4) (P2 4), bYr Γ (p2 5) (P2 5), [(t 1, .inl (Γ.2 3, 2, .inr (.inr (.inr (.inr f)))))], bSc Γ t L, bA Γ (t 3) 6 tl, I0, I1, bMo Γ m M, bA Γ (m 1) 259 b, bA Γ (m 2) 518 im, bZ Γ (m 3) 2 kp, bA Γ (m 4) 259 e4, bA Γ (m 5) 259 e5, bA Γ (m 6) 3 rf, bA Γ (m 7) 150 g, bA Γ (m 8) 350 e8, bA Γ (m 9) 6 e9, bA Γ (m 10) 8 e10] H := hP
  have hD : bD AA [bTT Γ t s x V, bKd Γ k, bSt Γ s c y p pc, bCo Γ c k C, bTs Γ c k tr, bYr Γ y Y, bYr Γ (p 0) (P 0), bYr Γ (p 1) (P 1), bYr Γ (p 2) (P 2), bYr Γ (p 3) (P 3), bYr Γ (p 4) (P 4), bYr Γ (p 5) (P 5), bSt Γ x d z p2 pc2, bCo Γ d k E, bTs Γ d k T, bYr Γ z Z, bYr Γ (p2 0) (P2 0), bYr Γ (p2 1) (P2 1), bYr Γ (p2 2) (P2 2), bYr Γ (p2 3) (P2 3), bYr Γ (p2 4) (P2 4), bYr Γ (p2 5) (P2 5), [(t 1, .inl (Γ.2 3, 2, .inr (.inr (.inr (.inr f)))))], bSc Γ t L, bA Γ (t 3) 6 tl, I0, I1, bMo Γ m M, bA Γ (m 1) 259 b, bA Γ (m 2) 518 im, bZ Γ (m 3) 2 kp, bA Γ (m 4) 259 e4, bA Γ (m 5) 259 e5, bA Γ (m 6) 3 rf, bA Γ (m 7) 150 g, bA Γ (m 8) 350 e8, bA Γ (m 9) 6 e9, bA Γ (m 10) 8 e10] := hD
  refine lv_aload_n zx zb dL_law_531 rfl (lv_at hl 1 rfl) ?_
  refine lg_arg 1 XX hX hbl hbA hS hl (by omega) (by omega) dL_law_532 dL_law_533 dL_law_534 (by decide) dL_law_535 dL_law_536 ?_
  refine call_Vi (As := [.int (xs (i + 1))]) (rest := []) XX cv_L_62 (c_X11_year Γ l t s x V c k y p pc C tr Y P (xs (i + 1)) (inv_n hJ.1.1) (inv_tc hJ.1.1) (inv_kd hJ.1.1) (hJ.2.1)) hP hD hS hA [0, 2, 3, 4, 1, 5, 6, 7, 8, 9, 10, 11] (by decide) rfl (fun _ => rfl) 0 0 rfl rfl rfl rfl hl.1 rfl ⟨⟨by decide, by decide⟩, show cells + 0 ≤ 600000 by omega, show slots + 0 ≤ 7302250 by omega⟩ (Nat.le_of_ble_eq_true rfl) dL_law_537 (fun r_537 u H locs hw hP hD hS => ?_)
  have sa_537 : ∀ a0 a1 a2 a3 a4 a5 a6 a7 a8 a9 a10 a11 a12 a13 a14 a15 a16 a17 a18 a19 a20 a21 a22 a23 a24 a25 a26 a27 a28 a29 a30 a31 a32 a33 a34 a35 a36 a37 n0 n1 n2 n3 n4 n5 n6 n7 n8 n9 n10 n11, setAll [a0, a1, a2, a3, a4, a5, a6, a7, a8, a9, a10, a11, a12, a13, a14, a15, a16, a17, a18, a19, a20, a21, a22, a23, a24, a25, a26, a27, a28, a29, a30, a31, a32, a33, a34, a35, a36, a37] [0, 2, 3, 4, 1, 5, 6, 7, 8, 9, 10, 11] [n0, n1, n2, n3, n4, n5, n6, n7, n8, n9, n10, n11] = [n0, n4, n1, n2, n3, n5, n6, n7, n8, n9, n10, n11, a12, a13, a14, a15, a16, a17, a18, a19, a20, a21, a22, a23, a24, a25, a26, a27, a28, a29, a30, a31, a32, a33, a34, a35, a36, a37] := by intros; simp only [setAll, List.set_cons_zero, List.set_cons_succ]
  rw [sa_537] at hP hD
  obtain ⟨u_537, rfl⟩ : ∃ z, z = u := ⟨_, rfl⟩
  have w_537 := hw
  have hP : bP Γ [bTT Γ t s x u_537.1, bKd Γ k, bSt Γ s c y u_537.2.2.2.2 u_537.2.2.1, bCo Γ c k C, bTs Γ c k tr, bYr Γ y u_537.2.1, bYr Γ (u_537.2.2.2.2 0) (u_537.2.2.2.1 0), bYr Γ (u_537.2.2.2.2 1) (u_537.2.2.2.1 1), bYr Γ (u_537.2.2.2.2 2) (u_537.2.2.2.1 2), bYr Γ (u_537.2.2.2.2 3) (u_537.2.2.2.1 3), bYr Γ (u_537.2.2.2.2 4) (u_537.2.2.2.1 4), bYr Γ (u_537.2.2.2.2 5) (u_537.2.2.2.1 5), bSt Γ x d z p2 pc2, bCo Γ d k E, bTs Γ d k T, bYr Γ z Z, bYr Γ (p2 0) (P2 0), bYr Γ (p2 1) (P2 1), bYr Γ (p2 2) (P2 2), bYr Γ (p2 3) (P2 3), bYr Γ (p2 4) (P2 4), bYr Γ (p2 5) (P2 5), [(t 1, .inl (Γ.2 3, 2, .inr (.inr (.inr (.inr f)))))], bSc Γ t L, bA Γ (t 3) 6 tl, I0, I1, bMo Γ m M, bA Γ (m 1) 259 b, bA Γ (m 2) 518 im, bZ Γ (m 3) 2 kp, bA Γ (m 4) 259 e4, bA Γ (m 5) 259 e5, bA Γ (m 6) 3 rf, bA Γ (m 7) 150 g, bA Γ (m 8) 350 e8, bA Γ (m 9) 6 e9, bA Γ (m 10) 8 e10] H := hP
  have hD : bD AA [bTT Γ t s x u_537.1, bKd Γ k, bSt Γ s c y u_537.2.2.2.2 u_537.2.2.1, bCo Γ c k C, bTs Γ c k tr, bYr Γ y u_537.2.1, bYr Γ (u_537.2.2.2.2 0) (u_537.2.2.2.1 0), bYr Γ (u_537.2.2.2.2 1) (u_537.2.2.2.1 1), bYr Γ (u_537.2.2.2.2 2) (u_537.2.2.2.1 2), bYr Γ (u_537.2.2.2.2 3) (u_537.2.2.2.1 3), bYr Γ (u_537.2.2.2.2 4) (u_537.2.2.2.1 4), bYr Γ (u_537.2.2.2.2 5) (u_537.2.2.2.1 5), bSt Γ x d z p2 pc2, bCo Γ d k E, bTs Γ d k T, bYr Γ z Z, bYr Γ (p2 0) (P2 0), bYr Γ (p2 1) (P2 1), bYr Γ (p2 2) (P2 2), bYr Γ (p2 3) (P2 3), bYr Γ (p2 4) (P2 4), bYr Γ (p2 5) (P2 5), [(t 1, .inl (Γ.2 3, 2, .inr (.inr (.inr (.inr f)))))], bSc Γ t L, bA Γ (t 3) 6 tl, I0, I1, bMo Γ m M, bA Γ (m 1) 259 b, bA Γ (m 2) 518 im, bZ Γ (m 3) 2 kp, bA Γ (m 4) 259 e4, bA Γ (m 5) 259 e5, bA Γ (m 6) 3 rf, bA Γ (m 7) 150 g, bA Γ (m 8) 350 e8, bA Γ (m 9) 6 e9, bA Γ (m 10) 8 e10] := hD
  refine lv_aload_n zx zb dL_law_540 rfl (lv_at hl 2 rfl) ?_
  refine lg_arg 1 XX hX hbl hbA hS hl (by omega) (by omega) dL_law_541 dL_law_542 dL_law_543 (by decide) dL_law_544 dL_law_545 ?_
  refine call_Vi (As := [.int (xs (i + 1))]) (rest := [.int r_537]) XX cv_L_65 (c_X12_year Γ l m M b C tr Y pc P rf yy (xs (i + 1)) (hr) (hJ.1.1) (hJ.2.1) (hyy) ((by omega))) hP hD hS hA [27, 28, 33] (by decide) rfl (fun _ => rfl) 27 0 rfl rfl rfl rfl hl.1 rfl ⟨⟨by decide, by decide⟩, show cells + 0 ≤ 600000 by omega, show slots + 0 ≤ 7302250 by omega⟩ (Nat.le_of_ble_eq_true rfl) dL_law_546 (fun r_546 u H locs hw hP hD hS => ?_)
  obtain ⟨u_546, rfl⟩ : ∃ z, z = u := ⟨_, rfl⟩
  have w_546 := hw
  have hP : bP Γ [bTT Γ t s x u_537.1, bKd Γ k, bSt Γ s c y u_537.2.2.2.2 u_537.2.2.1, bCo Γ c k C, bTs Γ c k tr, bYr Γ y u_537.2.1, bYr Γ (u_537.2.2.2.2 0) (u_537.2.2.2.1 0), bYr Γ (u_537.2.2.2.2 1) (u_537.2.2.2.1 1), bYr Γ (u_537.2.2.2.2 2) (u_537.2.2.2.1 2), bYr Γ (u_537.2.2.2.2 3) (u_537.2.2.2.1 3), bYr Γ (u_537.2.2.2.2 4) (u_537.2.2.2.1 4), bYr Γ (u_537.2.2.2.2 5) (u_537.2.2.2.1 5), bSt Γ x d z p2 pc2, bCo Γ d k E, bTs Γ d k T, bYr Γ z Z, bYr Γ (p2 0) (P2 0), bYr Γ (p2 1) (P2 1), bYr Γ (p2 2) (P2 2), bYr Γ (p2 3) (P2 3), bYr Γ (p2 4) (P2 4), bYr Γ (p2 5) (P2 5), [(t 1, .inl (Γ.2 3, 2, .inr (.inr (.inr (.inr f)))))], bSc Γ t L, bA Γ (t 3) 6 tl, I0, I1, bMo Γ m M, bA Γ (m 1) 259 u_546.1, bA Γ (m 2) 518 im, bZ Γ (m 3) 2 kp, bA Γ (m 4) 259 e4, bA Γ (m 5) 259 e5, bA Γ (m 6) 3 u_546.2, bA Γ (m 7) 150 g, bA Γ (m 8) 350 e8, bA Γ (m 9) 6 e9, bA Γ (m 10) 8 e10] H := hP
  have hD : bD AA [bTT Γ t s x u_537.1, bKd Γ k, bSt Γ s c y u_537.2.2.2.2 u_537.2.2.1, bCo Γ c k C, bTs Γ c k tr, bYr Γ y u_537.2.1, bYr Γ (u_537.2.2.2.2 0) (u_537.2.2.2.1 0), bYr Γ (u_537.2.2.2.2 1) (u_537.2.2.2.1 1), bYr Γ (u_537.2.2.2.2 2) (u_537.2.2.2.1 2), bYr Γ (u_537.2.2.2.2 3) (u_537.2.2.2.1 3), bYr Γ (u_537.2.2.2.2 4) (u_537.2.2.2.1 4), bYr Γ (u_537.2.2.2.2 5) (u_537.2.2.2.1 5), bSt Γ x d z p2 pc2, bCo Γ d k E, bTs Γ d k T, bYr Γ z Z, bYr Γ (p2 0) (P2 0), bYr Γ (p2 1) (P2 1), bYr Γ (p2 2) (P2 2), bYr Γ (p2 3) (P2 3), bYr Γ (p2 4) (P2 4), bYr Γ (p2 5) (P2 5), [(t 1, .inl (Γ.2 3, 2, .inr (.inr (.inr (.inr f)))))], bSc Γ t L, bA Γ (t 3) 6 tl, I0, I1, bMo Γ m M, bA Γ (m 1) 259 u_546.1, bA Γ (m 2) 518 im, bZ Γ (m 3) 2 kp, bA Γ (m 4) 259 e4, bA Γ (m 5) 259 e5, bA Γ (m 6) 3 u_546.2, bA Γ (m 7) 150 g, bA Γ (m 8) 350 e8, bA Γ (m 9) 6 e9, bA Γ (m 10) 8 e10] := hD
  refine lv_icmp_eq (tgt := 1256) zx zb dL_law_549 (by decide) (fun c_549 => ?_) (fun c_549 => ?_)
  · have c_549 : r_537 = r_546 := c_549
    refine lv_iinc (v := nI (i + 7)) (lv' := [(3, .int (nI (i + 7))), (0, .ref sa), (1, .ref (t 0)), (2, .ref (m 0))]) zx zb dL_law_1256 hl (k := 3) rfl (nI_inc _ 7) (by decide) rfl (fun ls hl => ?_)
    refine lv_goto (tgt := 18) zx zb dL_law_1259 (by decide) ?_
    exact kk _ _ ls ⟨s, x, c, k, y, u_537.2.2.2.2, d, z, p2, u_537.1, u_537.2.2.1, C, tr, u_537.2.1, u_537.2.2.2.1, pc2, E, T, Z, P2, f, L, tl, I0, I1, M, u_546.1, im, kp, e4, e5, u_546.2, g, e8, e9, e10, ⟨(by have e := jp_ye hJ (n := xs (i + 1)); rw [← w_537.2.2] at e; exact e), (by have e := w_546.2.1; rw [← w_537.2.2] at e; exact e), hB, ⟨hM, hLM, hL0, hg⟩, (by rw [w_546.2.2, w_537.2.1]; exact fv_ye hF hM), hI0, hI1⟩, hP, hD, hS⟩ (lv_sub hl [1, 2, 3, 0] rfl)
  · have c_549 : ¬ (r_537 = r_546) := c_549
    exact absurd (w_537.1.trans w_546.1.symm) c_549

set_option maxHeartbeats 4000000 in
set_option maxRecDepth 100000 in
theorem law_undo {pp : Program} {ee : Env} {ss : State} {mm : MethodId} {bb : List Frame} {me : Method} {cd : Code} {QQ : State → Prop} {AA : Nat → Prop} (Γ : GG) (l : Launch) {sa sn : Nat} {xs : Nat → Int32} {t m : Nat → Nat} {H : Heap} {locs : List Loc} {cells slots i : Nat} {ls : Array Slot} (XX : Cx pp ss mm #[.ref sa] cd cL_law 4 RL Γ) (hX : va_X sa sn xs ss ss.heap) (hbl : sa < ss.heap.size) (hbA : ¬ AA sa) (hA : ∀ q, ss.heap.size ≤ q → AA q) (hi : i + 7 ≤ sn) (hn : sn ≤ 448) (hcc : cells ≤ 590000) (hsl : slots ≤ 7000000) (hJ0 : LJ Γ AA ss.heap t m H locs) (hl : lv_has ls 4 [(0, .ref sa), (1, .ref (t 0)), (2, .ref (m 0)), (3, .int (nI i))]) (kk : ∀ (H : Heap) (locs : List Loc) (ls : Array Slot), LJ Γ AA ss.heap t m H locs → lv_has ls 4 [(0, .ref sa), (1, .ref (t 0)), (2, .ref (m 0)), (3, .int (nI (i + 7)))] → W pp l ee room_1 ss mm #[.ref sa] bb me cd H locs cells slots QQ (F0 mm 18 ls [])) : W pp l ee room_1 ss mm #[.ref sa] bb me cd H locs cells slots QQ (F0 mm 554 ls []) := by
  obtain ⟨s, x, c, k, y, p, d, z, p2, V, pc, C, tr, Y, P, pc2, E, T, Z, P2, f, L, tl, I0, I1, M, b, im, kp, e4, e5, rf, g, e8, e9, e10, ⟨hJ, hr, hB, ⟨hM, hLM, hL0, hg⟩, hF, hI0, hI1⟩, hP, hD, hS⟩ := hJ0
  obtain ⟨zx, zb, hml, hown, hts, hK⟩ := id XX
  cases pc with
  | zero =>
    have hP : bP Γ [bTT Γ t s x V, bKd Γ k, bSt Γ s c y p 0, bCo Γ c k C, bTs Γ c k tr, bYr Γ y Y, bYr Γ (p 0) (P 0), bYr Γ (p 1) (P 1), bYr Γ (p 2) (P 2), bYr Γ (p 3) (P 3), bYr Γ (p 4) (P 4), bYr Γ (p 5) (P 5), bSt Γ x d z p2 pc2, bCo Γ d k E, bTs Γ d k T, bYr Γ z Z, bYr Γ (p2 0) (P2 0), bYr Γ (p2 1) (P2 1), bYr Γ (p2 2) (P2 2), bYr Γ (p2 3) (P2 3), bYr Γ (p2 4) (P2 4), bYr Γ (p2 5) (P2 5), [(t 1, .inl (Γ.2 3, 2, .inr (.inr (.inr (.inr f)))))], bSc Γ t L, bA Γ (t 3) 6 tl, I0, I1, bMo Γ m M, bA Γ (m 1) 259 b, bA Γ (m 2) 518 im, bZ Γ (m 3) 2 kp, bA Γ (m 4) 259 e4, bA Γ (m 5) 259 e5, bA Γ (m 6) 3 rf, bA Γ (m 7) 150 g, bA Γ (m 8) 350 e8, bA Γ (m 9) 6 e9, bA Γ (m 10) 8 e10] H := hP
    have hD : bD AA [bTT Γ t s x V, bKd Γ k, bSt Γ s c y p 0, bCo Γ c k C, bTs Γ c k tr, bYr Γ y Y, bYr Γ (p 0) (P 0), bYr Γ (p 1) (P 1), bYr Γ (p 2) (P 2), bYr Γ (p 3) (P 3), bYr Γ (p 4) (P 4), bYr Γ (p 5) (P 5), bSt Γ x d z p2 pc2, bCo Γ d k E, bTs Γ d k T, bYr Γ z Z, bYr Γ (p2 0) (P2 0), bYr Γ (p2 1) (P2 1), bYr Γ (p2 2) (P2 2), bYr Γ (p2 3) (P2 3), bYr Γ (p2 4) (P2 4), bYr Γ (p2 5) (P2 5), [(t 1, .inl (Γ.2 3, 2, .inr (.inr (.inr (.inr f)))))], bSc Γ t L, bA Γ (t 3) 6 tl, I0, I1, bMo Γ m M, bA Γ (m 1) 259 b, bA Γ (m 2) 518 im, bZ Γ (m 3) 2 kp, bA Γ (m 4) 259 e4, bA Γ (m 5) 259 e5, bA Γ (m 6) 3 rf, bA Γ (m 7) 150 g, bA Γ (m 8) 350 e8, bA Γ (m 9) 6 e9, bA Γ (m 10) 8 e10] := hD
    refine lv_aload_n zx zb dL_law_554 rfl (lv_at hl 1 rfl) ?_
    refine call_Vi (As := []) (rest := []) XX cv_L_66 (c_X11_undo_0 Γ l t s x V c y p ) hP hD hS hA [0, 2] (by decide) rfl (fun _ => rfl) 0 0 rfl rfl rfl rfl hl.1 rfl ⟨⟨by decide, by decide⟩, show cells + 0 ≤ 600000 by omega, show slots + 0 ≤ 7302250 by omega⟩ (Nat.le_of_ble_eq_true rfl) dL_law_555 (fun r_555 u H locs hw hP hD hS => ?_)
    obtain ⟨hw1, hw2⟩ := hw
    have hw1 := hw1.symm
    have hw2 := hw2.symm
    subst hw1
    subst hw2
    have hP : bP Γ [bTT Γ t s x (ttRef V (-3)), bKd Γ k, bSt Γ s c y p 0, bCo Γ c k C, bTs Γ c k tr, bYr Γ y Y, bYr Γ (p 0) (P 0), bYr Γ (p 1) (P 1), bYr Γ (p 2) (P 2), bYr Γ (p 3) (P 3), bYr Γ (p 4) (P 4), bYr Γ (p 5) (P 5), bSt Γ x d z p2 pc2, bCo Γ d k E, bTs Γ d k T, bYr Γ z Z, bYr Γ (p2 0) (P2 0), bYr Γ (p2 1) (P2 1), bYr Γ (p2 2) (P2 2), bYr Γ (p2 3) (P2 3), bYr Γ (p2 4) (P2 4), bYr Γ (p2 5) (P2 5), [(t 1, .inl (Γ.2 3, 2, .inr (.inr (.inr (.inr f)))))], bSc Γ t L, bA Γ (t 3) 6 tl, I0, I1, bMo Γ m M, bA Γ (m 1) 259 b, bA Γ (m 2) 518 im, bZ Γ (m 3) 2 kp, bA Γ (m 4) 259 e4, bA Γ (m 5) 259 e5, bA Γ (m 6) 3 rf, bA Γ (m 7) 150 g, bA Γ (m 8) 350 e8, bA Γ (m 9) 6 e9, bA Γ (m 10) 8 e10] H := hP
    have hD : bD AA [bTT Γ t s x (ttRef V (-3)), bKd Γ k, bSt Γ s c y p 0, bCo Γ c k C, bTs Γ c k tr, bYr Γ y Y, bYr Γ (p 0) (P 0), bYr Γ (p 1) (P 1), bYr Γ (p 2) (P 2), bYr Γ (p 3) (P 3), bYr Γ (p 4) (P 4), bYr Γ (p 5) (P 5), bSt Γ x d z p2 pc2, bCo Γ d k E, bTs Γ d k T, bYr Γ z Z, bYr Γ (p2 0) (P2 0), bYr Γ (p2 1) (P2 1), bYr Γ (p2 2) (P2 2), bYr Γ (p2 3) (P2 3), bYr Γ (p2 4) (P2 4), bYr Γ (p2 5) (P2 5), [(t 1, .inl (Γ.2 3, 2, .inr (.inr (.inr (.inr f)))))], bSc Γ t L, bA Γ (t 3) 6 tl, I0, I1, bMo Γ m M, bA Γ (m 1) 259 b, bA Γ (m 2) 518 im, bZ Γ (m 3) 2 kp, bA Γ (m 4) 259 e4, bA Γ (m 5) 259 e5, bA Γ (m 6) 3 rf, bA Γ (m 7) 150 g, bA Γ (m 8) 350 e8, bA Γ (m 9) 6 e9, bA Γ (m 10) 8 e10] := hD
    refine lv_aload_n zx zb dL_law_558 rfl (lv_at hl 2 rfl) ?_
    refine call_Vi (As := []) (rest := [.int (-3)]) XX cv_L_69 (c_X12_undo_0 Γ l m M b C tr Y P rf (hr)) hP hD hS hA [27, 28, 33] (by decide) rfl (fun _ => rfl) 27 0 rfl rfl rfl rfl hl.1 rfl ⟨⟨by decide, by decide⟩, show cells + 0 ≤ 600000 by omega, show slots + 0 ≤ 7302250 by omega⟩ (Nat.le_of_ble_eq_true rfl) dL_law_559 (fun r_559 u H locs hw hP hD hS => ?_)
    obtain ⟨hw1, hw2⟩ := hw
    have hw1 := hw1.symm
    have hw2 := hw2.symm
    subst hw1
    subst hw2
    have hP : bP Γ [bTT Γ t s x (ttRef V (-3)), bKd Γ k, bSt Γ s c y p 0, bCo Γ c k C, bTs Γ c k tr, bYr Γ y Y, bYr Γ (p 0) (P 0), bYr Γ (p 1) (P 1), bYr Γ (p 2) (P 2), bYr Γ (p 3) (P 3), bYr Γ (p 4) (P 4), bYr Γ (p 5) (P 5), bSt Γ x d z p2 pc2, bCo Γ d k E, bTs Γ d k T, bYr Γ z Z, bYr Γ (p2 0) (P2 0), bYr Γ (p2 1) (P2 1), bYr Γ (p2 2) (P2 2), bYr Γ (p2 3) (P2 3), bYr Γ (p2 4) (P2 4), bYr Γ (p2 5) (P2 5), [(t 1, .inl (Γ.2 3, 2, .inr (.inr (.inr (.inr f)))))], bSc Γ t L, bA Γ (t 3) 6 tl, I0, I1, bMo Γ m M, bA Γ (m 1) 259 b, bA Γ (m 2) 518 im, bZ Γ (m 3) 2 kp, bA Γ (m 4) 259 e4, bA Γ (m 5) 259 e5, bA Γ (m 6) 3 (moRef M rf 1), bA Γ (m 7) 150 g, bA Γ (m 8) 350 e8, bA Γ (m 9) 6 e9, bA Γ (m 10) 8 e10] H := hP
    have hD : bD AA [bTT Γ t s x (ttRef V (-3)), bKd Γ k, bSt Γ s c y p 0, bCo Γ c k C, bTs Γ c k tr, bYr Γ y Y, bYr Γ (p 0) (P 0), bYr Γ (p 1) (P 1), bYr Γ (p 2) (P 2), bYr Γ (p 3) (P 3), bYr Γ (p 4) (P 4), bYr Γ (p 5) (P 5), bSt Γ x d z p2 pc2, bCo Γ d k E, bTs Γ d k T, bYr Γ z Z, bYr Γ (p2 0) (P2 0), bYr Γ (p2 1) (P2 1), bYr Γ (p2 2) (P2 2), bYr Γ (p2 3) (P2 3), bYr Γ (p2 4) (P2 4), bYr Γ (p2 5) (P2 5), [(t 1, .inl (Γ.2 3, 2, .inr (.inr (.inr (.inr f)))))], bSc Γ t L, bA Γ (t 3) 6 tl, I0, I1, bMo Γ m M, bA Γ (m 1) 259 b, bA Γ (m 2) 518 im, bZ Γ (m 3) 2 kp, bA Γ (m 4) 259 e4, bA Γ (m 5) 259 e5, bA Γ (m 6) 3 (moRef M rf 1), bA Γ (m 7) 150 g, bA Γ (m 8) 350 e8, bA Γ (m 9) 6 e9, bA Γ (m 10) 8 e10] := hD
    refine lv_icmp_eq (tgt := 1256) zx zb dL_law_562 (by decide) (fun c_562 => ?_) (fun c_562 => ?_)
    · have c_562 : ((-3) : Int32) = (-3) := c_562
      refine lv_iinc (v := nI (i + 7)) (lv' := [(3, .int (nI (i + 7))), (0, .ref sa), (1, .ref (t 0)), (2, .ref (m 0))]) zx zb dL_law_1256 hl (k := 3) rfl (nI_inc _ 7) (by decide) rfl (fun ls hl => ?_)
      refine lv_goto (tgt := 18) zx zb dL_law_1259 (by decide) ?_
      exact kk _ _ ls ⟨s, x, c, k, y, p, d, z, p2, (ttRef V (-3)), 0, C, tr, Y, P, pc2, E, T, Z, P2, f, L, tl, I0, I1, M, b, im, kp, e4, e5, (moRef M rf 1), g, e8, e9, e10, ⟨hJ, hr, hB, ⟨hM, hLM, hL0, hg⟩, fv_1 hF hM, hI0, hI1⟩, hP, hD, hS⟩ (lv_sub hl [1, 2, 3, 0] rfl)
    · have c_562 : ¬ (((-3) : Int32) = (-3)) := c_562
      exact absurd rfl c_562
  | succ pc =>
    have hP : bP Γ [bTT Γ t s x V, bKd Γ k, bSt Γ s c y p (pc + 1), bCo Γ c k C, bTs Γ c k tr, bYr Γ y Y, bYr Γ (p 0) (P 0), bYr Γ (p 1) (P 1), bYr Γ (p 2) (P 2), bYr Γ (p 3) (P 3), bYr Γ (p 4) (P 4), bYr Γ (p 5) (P 5), bSt Γ x d z p2 pc2, bCo Γ d k E, bTs Γ d k T, bYr Γ z Z, bYr Γ (p2 0) (P2 0), bYr Γ (p2 1) (P2 1), bYr Γ (p2 2) (P2 2), bYr Γ (p2 3) (P2 3), bYr Γ (p2 4) (P2 4), bYr Γ (p2 5) (P2 5), [(t 1, .inl (Γ.2 3, 2, .inr (.inr (.inr (.inr f)))))], bSc Γ t L, bA Γ (t 3) 6 tl, I0, I1, bMo Γ m M, bA Γ (m 1) 259 b, bA Γ (m 2) 518 im, bZ Γ (m 3) 2 kp, bA Γ (m 4) 259 e4, bA Γ (m 5) 259 e5, bA Γ (m 6) 3 rf, bA Γ (m 7) 150 g, bA Γ (m 8) 350 e8, bA Γ (m 9) 6 e9, bA Γ (m 10) 8 e10] H := hP
    have hD : bD AA [bTT Γ t s x V, bKd Γ k, bSt Γ s c y p (pc + 1), bCo Γ c k C, bTs Γ c k tr, bYr Γ y Y, bYr Γ (p 0) (P 0), bYr Γ (p 1) (P 1), bYr Γ (p 2) (P 2), bYr Γ (p 3) (P 3), bYr Γ (p 4) (P 4), bYr Γ (p 5) (P 5), bSt Γ x d z p2 pc2, bCo Γ d k E, bTs Γ d k T, bYr Γ z Z, bYr Γ (p2 0) (P2 0), bYr Γ (p2 1) (P2 1), bYr Γ (p2 2) (P2 2), bYr Γ (p2 3) (P2 3), bYr Γ (p2 4) (P2 4), bYr Γ (p2 5) (P2 5), [(t 1, .inl (Γ.2 3, 2, .inr (.inr (.inr (.inr f)))))], bSc Γ t L, bA Γ (t 3) 6 tl, I0, I1, bMo Γ m M, bA Γ (m 1) 259 b, bA Γ (m 2) 518 im, bZ Γ (m 3) 2 kp, bA Γ (m 4) 259 e4, bA Γ (m 5) 259 e5, bA Γ (m 6) 3 rf, bA Γ (m 7) 150 g, bA Γ (m 8) 350 e8, bA Γ (m 9) 6 e9, bA Γ (m 10) 8 e10] := hD
    refine lv_aload_n zx zb dL_law_554 rfl (lv_at hl 1 rfl) ?_
    refine call_Vi (As := []) (rest := []) XX cv_L_66 (c_X11_undo_s Γ l t s x V c y p pc Y P ((show pc < 6 from hJ.2.1))) hP hD hS hA [0, 2, 5, 6, 7, 8, 9, 10, 11] (by decide) rfl (fun _ => rfl) 0 0 rfl rfl rfl rfl hl.1 rfl ⟨⟨by decide, by decide⟩, show cells + 0 ≤ 600000 by omega, show slots + 0 ≤ 7302250 by omega⟩ (Nat.le_of_ble_eq_true rfl) dL_law_555 (fun r_555 u H locs hw hP hD hS => ?_)
    obtain ⟨hw1, hw2⟩ := hw
    have hw1 := hw1.symm
    have hw2 := hw2.symm
    subst hw1
    subst hw2
    have hP : bP Γ [bTT Γ t s x V, bKd Γ k, bSt Γ s c y p pc, bCo Γ c k C, bTs Γ c k tr, bYr Γ y (P pc), bYr Γ (p 0) (P 0), bYr Γ (p 1) (P 1), bYr Γ (p 2) (P 2), bYr Γ (p 3) (P 3), bYr Γ (p 4) (P 4), bYr Γ (p 5) (P 5), bSt Γ x d z p2 pc2, bCo Γ d k E, bTs Γ d k T, bYr Γ z Z, bYr Γ (p2 0) (P2 0), bYr Γ (p2 1) (P2 1), bYr Γ (p2 2) (P2 2), bYr Γ (p2 3) (P2 3), bYr Γ (p2 4) (P2 4), bYr Γ (p2 5) (P2 5), [(t 1, .inl (Γ.2 3, 2, .inr (.inr (.inr (.inr f)))))], bSc Γ t L, bA Γ (t 3) 6 tl, I0, I1, bMo Γ m M, bA Γ (m 1) 259 b, bA Γ (m 2) 518 im, bZ Γ (m 3) 2 kp, bA Γ (m 4) 259 e4, bA Γ (m 5) 259 e5, bA Γ (m 6) 3 rf, bA Γ (m 7) 150 g, bA Γ (m 8) 350 e8, bA Γ (m 9) 6 e9, bA Γ (m 10) 8 e10] H := hP
    have hD : bD AA [bTT Γ t s x V, bKd Γ k, bSt Γ s c y p pc, bCo Γ c k C, bTs Γ c k tr, bYr Γ y (P pc), bYr Γ (p 0) (P 0), bYr Γ (p 1) (P 1), bYr Γ (p 2) (P 2), bYr Γ (p 3) (P 3), bYr Γ (p 4) (P 4), bYr Γ (p 5) (P 5), bSt Γ x d z p2 pc2, bCo Γ d k E, bTs Γ d k T, bYr Γ z Z, bYr Γ (p2 0) (P2 0), bYr Γ (p2 1) (P2 1), bYr Γ (p2 2) (P2 2), bYr Γ (p2 3) (P2 3), bYr Γ (p2 4) (P2 4), bYr Γ (p2 5) (P2 5), [(t 1, .inl (Γ.2 3, 2, .inr (.inr (.inr (.inr f)))))], bSc Γ t L, bA Γ (t 3) 6 tl, I0, I1, bMo Γ m M, bA Γ (m 1) 259 b, bA Γ (m 2) 518 im, bZ Γ (m 3) 2 kp, bA Γ (m 4) 259 e4, bA Γ (m 5) 259 e5, bA Γ (m 6) 3 rf, bA Γ (m 7) 150 g, bA Γ (m 8) 350 e8, bA Γ (m 9) 6 e9, bA Γ (m 10) 8 e10] := hD
    refine lv_aload_n zx zb dL_law_558 rfl (lv_at hl 2 rfl) ?_
    refine call_Vi (As := []) (rest := [.int (nI 1)]) XX cv_L_69 (c_X12_undo_s Γ l m M b C tr Y pc P (hr) (hJ.1.1) ((show pc < 6 from hJ.2.1))) hP hD hS hA [27, 28] (by decide) rfl (fun _ => rfl) 27 0 rfl rfl rfl rfl hl.1 rfl ⟨⟨by decide, by decide⟩, show cells + 0 ≤ 600000 by omega, show slots + 0 ≤ 7302250 by omega⟩ (Nat.le_of_ble_eq_true rfl) dL_law_559 (fun r_559 u H locs hw hP hD hS => ?_)
    obtain ⟨u_559, rfl⟩ : ∃ z, z = u := ⟨_, rfl⟩
    have w_559 := hw
    have hP : bP Γ [bTT Γ t s x V, bKd Γ k, bSt Γ s c y p pc, bCo Γ c k C, bTs Γ c k tr, bYr Γ y (P pc), bYr Γ (p 0) (P 0), bYr Γ (p 1) (P 1), bYr Γ (p 2) (P 2), bYr Γ (p 3) (P 3), bYr Γ (p 4) (P 4), bYr Γ (p 5) (P 5), bSt Γ x d z p2 pc2, bCo Γ d k E, bTs Γ d k T, bYr Γ z Z, bYr Γ (p2 0) (P2 0), bYr Γ (p2 1) (P2 1), bYr Γ (p2 2) (P2 2), bYr Γ (p2 3) (P2 3), bYr Γ (p2 4) (P2 4), bYr Γ (p2 5) (P2 5), [(t 1, .inl (Γ.2 3, 2, .inr (.inr (.inr (.inr f)))))], bSc Γ t L, bA Γ (t 3) 6 tl, I0, I1, bMo Γ m M, bA Γ (m 1) 259 u_559, bA Γ (m 2) 518 im, bZ Γ (m 3) 2 kp, bA Γ (m 4) 259 e4, bA Γ (m 5) 259 e5, bA Γ (m 6) 3 rf, bA Γ (m 7) 150 g, bA Γ (m 8) 350 e8, bA Γ (m 9) 6 e9, bA Γ (m 10) 8 e10] H := hP
    have hD : bD AA [bTT Γ t s x V, bKd Γ k, bSt Γ s c y p pc, bCo Γ c k C, bTs Γ c k tr, bYr Γ y (P pc), bYr Γ (p 0) (P 0), bYr Γ (p 1) (P 1), bYr Γ (p 2) (P 2), bYr Γ (p 3) (P 3), bYr Γ (p 4) (P 4), bYr Γ (p 5) (P 5), bSt Γ x d z p2 pc2, bCo Γ d k E, bTs Γ d k T, bYr Γ z Z, bYr Γ (p2 0) (P2 0), bYr Γ (p2 1) (P2 1), bYr Γ (p2 2) (P2 2), bYr Γ (p2 3) (P2 3), bYr Γ (p2 4) (P2 4), bYr Γ (p2 5) (P2 5), [(t 1, .inl (Γ.2 3, 2, .inr (.inr (.inr (.inr f)))))], bSc Γ t L, bA Γ (t 3) 6 tl, I0, I1, bMo Γ m M, bA Γ (m 1) 259 u_559, bA Γ (m 2) 518 im, bZ Γ (m 3) 2 kp, bA Γ (m 4) 259 e4, bA Γ (m 5) 259 e5, bA Γ (m 6) 3 rf, bA Γ (m 7) 150 g, bA Γ (m 8) 350 e8, bA Γ (m 9) 6 e9, bA Γ (m 10) 8 e10] := hD
    refine lv_icmp_eq (tgt := 1256) zx zb dL_law_562 (by decide) (fun c_562 => ?_) (fun c_562 => ?_)
    · have c_562 : (1 : Int32) = r_559 := c_562
      refine lv_iinc (v := nI (i + 7)) (lv' := [(3, .int (nI (i + 7))), (0, .ref sa), (1, .ref (t 0)), (2, .ref (m 0))]) zx zb dL_law_1256 hl (k := 3) rfl (nI_inc _ 7) (by decide) rfl (fun ls hl => ?_)
      refine lv_goto (tgt := 18) zx zb dL_law_1259 (by decide) ?_
      exact kk _ _ ls ⟨s, x, c, k, y, p, d, z, p2, V, pc, C, tr, (P pc), P, pc2, E, T, Z, P2, f, L, tl, I0, I1, M, u_559, im, kp, e4, e5, rf, g, e8, e9, e10, ⟨jp_undo hJ, w_559.2, hB, ⟨hM, hLM, hL0, hg⟩, hF, hI0, hI1⟩, hP, hD, hS⟩ (lv_sub hl [1, 2, 3, 0] rfl)
    · have c_562 : ¬ ((1 : Int32) = r_559) := c_562
      exact absurd w_559.1.symm c_562

set_option maxHeartbeats 4000000 in
set_option maxRecDepth 100000 in
theorem c_X11_offer_b (Γ : GG) (l : Launch) (t : Nat → Nat) (s : Nat → Nat) (x : Nat → Nat) (V : V3) (c : Nat → Nat) (k : Nat → Nat) (y : Nat → Nat) (p : Nat → Nat → Nat) (pc : Nat) (C : CoV) (tr : Nat → TrV) (Y : YrV) (d : Nat → Nat) (z : Nat → Nat) (p2 : Nat → Nat → Nat) (pc2 : Nat) (Z : YrV) (E : CoV) (T : Nat → TrV) (a : Int32) (b : Int32) (m : Int32) (w : Int32) (hn : C.1 ≤ 8) (htc : C.2.2.2.2.2.2.1 ≤ 6) (hkd : ∀ i, i < 6 → (tr i).1 < 6) (hkT : ∀ i, i < 6 → (T i).1 < 6) (hB9 : tB (E, T, Z)) : Ci Γ l yX11_offer cX11_offer 6 (some (.int)) 6 141 0 0 [.ref (t 0), .int a, .int b, .int m, .int w] [bTT Γ t s x V, bSt Γ s c y p pc, bCo Γ c k C, bTs Γ c k tr, bKd Γ k, bYr Γ y Y, bSt Γ x d z p2 pc2, bCo Γ d k E, bTs Γ d k T, bYr Γ z Z] (fun (r : Int32) (u : V3 × CoV × (Nat → TrV) × YrV) => (r = offR C tr Y a b m w ∧ u.1 = offW V C a b m w) ∧ tB u.2) (fun (u : V3 × CoV × (Nat → TrV) × YrV) => [bTT Γ t s x u.1, bSt Γ s c y p pc, bCo Γ c k C, bTs Γ c k tr, bKd Γ k, bYr Γ y Y, bSt Γ x d z p2 pc2, bCo Γ d k u.2.1, bTs Γ d k u.2.2.1, bYr Γ z u.2.2.2]) := by
  refine Ci.of (Or.inl rfl) (by decide) (Nat.le_of_ble_eq_true rfl) ?_
  intro pp ee ss mm bb me cd AA QQ XX hnm hA hP hD fin ls hl
  obtain ⟨zx, zb, hml, hown, hts, hK⟩ := id XX
  have hS : va_S AA ss.heap ss.heap [] := va_S.rf
  have hl : lv_has ls 6 [(0, .ref (t 0)), (1, .int a), (2, .int b), (3, .int m), (4, .int w)] := hl
  refine lv_aload_n zx zb dX11_offer_0 rfl (lv_at hl 0 rfl) ?_
  refine lv_iload_n zx zb dX11_offer_1 rfl (lv_at hl 1 rfl) ?_
  refine call_Vi (As := [.int a]) (rest := []) XX cv_X11_159 (c_X11_isCell Γ l t s x V c k y p pc C a ) hP hD hS hA [0, 1, 2] (by decide) rfl (fun _ => rfl) 0 0 rfl rfl rfl rfl hl.1 rfl ⟨⟨by decide, by decide⟩, by decide, by decide⟩ (Nat.le_of_ble_eq_true rfl) dX11_offer_2 (fun r_2 u H locs hw hP hD hS => ?_)
  have hw := hw.symm
  subst hw
  have hP : bP Γ [bTT Γ t s x V, bSt Γ s c y p pc, bCo Γ c k C, bTs Γ c k tr, bKd Γ k, bYr Γ y Y, bSt Γ x d z p2 pc2, bCo Γ d k E, bTs Γ d k T, bYr Γ z Z] H := hP
  have hD : bD AA [bTT Γ t s x V, bSt Γ s c y p pc, bCo Γ c k C, bTs Γ c k tr, bKd Γ k, bYr Γ y Y, bSt Γ x d z p2 pc2, bCo Γ d k E, bTs Γ d k T, bYr Γ z Z] := hD
  refine lv_if_eq (tgt := 41) zx zb dX11_offer_5 (by decide) (fun c_5 => ?_) (fun c_5 => ?_)
  · have c_5 : (stCell C a) = false := bI_0.mp c_5
    refine lv_aload_n zx zb dX11_offer_41 rfl (lv_at hl 0 rfl) ?_
    refine lv_bipush (v := (-2)) zx zb dX11_offer_42 (by decide) ?_
    refine lv_sipush (v := (-1000)) zx zb dX11_offer_44 (by decide) ?_
    refine call_Vi (As := [.int (-2), .int (-1000)]) (rest := []) XX cv_X11_79 (c_X11_refused Γ l t s x V (-2) (-1000) ) hP hD hS hA [0] (by decide) rfl (fun _ => rfl) 0 0 rfl rfl rfl rfl hl.1 rfl ⟨⟨by decide, by decide⟩, by decide, by decide⟩ (Nat.le_of_ble_eq_true rfl) dX11_offer_47 (fun r_47 u H locs hw hP hD hS => ?_)
    obtain ⟨hw1, hw2⟩ := hw
    have hw1 := hw1.symm
    have hw2 := hw2.symm
    subst hw1
    subst hw2
    have hP : bP Γ [bTT Γ t s x (ttRef V (-2)), bSt Γ s c y p pc, bCo Γ c k C, bTs Γ c k tr, bKd Γ k, bYr Γ y Y, bSt Γ x d z p2 pc2, bCo Γ d k E, bTs Γ d k T, bYr Γ z Z] H := hP
    have hD : bD AA [bTT Γ t s x (ttRef V (-2)), bSt Γ s c y p pc, bCo Γ c k C, bTs Γ c k tr, bKd Γ k, bYr Γ y Y, bSt Γ x d z p2 pc2, bCo Γ d k E, bTs Γ d k T, bYr Γ z Z] := hD
    exact fin _ _ (-1000) ((ttRef V (-2)), E, T, Z) 50 _ dX11_offer_50 (fun h => by cases h) (⟨off_bad1 (tr := tr) (T := tr) (by unfold offOk; first | (simp only [c_5, Bool.false_and]; done) | (simp only [c_13, Bool.and_false, Bool.false_and]; done) | (simp only [decide_eq_false (Int32.not_le.mpr c_18), Bool.and_false, Bool.false_and]; done) | (simp only [c_28, Bool.and_false, Bool.false_and]; done) | (simp only [c_38, Bool.and_false]; done)), hB9⟩) hP hD hS
  · have c_5 : (stCell C a) = true := bI_ne c_5
    refine lv_aload_n zx zb dX11_offer_8 rfl (lv_at hl 0 rfl) ?_
    refine lv_iload_n zx zb dX11_offer_9 rfl (lv_at hl 2 rfl) ?_
    refine call_Vi (As := [.int b]) (rest := []) XX cv_X11_159 (c_X11_isCell Γ l t s x V c k y p pc C b ) hP hD hS hA [0, 1, 2] (by decide) rfl (fun _ => rfl) 0 0 rfl rfl rfl rfl hl.1 rfl ⟨⟨by decide, by decide⟩, by decide, by decide⟩ (Nat.le_of_ble_eq_true rfl) dX11_offer_10 (fun r_10 u H locs hw hP hD hS => ?_)
    have hw := hw.symm
    subst hw
    have hP : bP Γ [bTT Γ t s x V, bSt Γ s c y p pc, bCo Γ c k C, bTs Γ c k tr, bKd Γ k, bYr Γ y Y, bSt Γ x d z p2 pc2, bCo Γ d k E, bTs Γ d k T, bYr Γ z Z] H := hP
    have hD : bD AA [bTT Γ t s x V, bSt Γ s c y p pc, bCo Γ c k C, bTs Γ c k tr, bKd Γ k, bYr Γ y Y, bSt Γ x d z p2 pc2, bCo Γ d k E, bTs Γ d k T, bYr Γ z Z] := hD
    refine lv_if_eq (tgt := 41) zx zb dX11_offer_13 (by decide) (fun c_13 => ?_) (fun c_13 => ?_)
    · have c_13 : (stCell C b) = false := bI_0.mp c_13
      refine lv_aload_n zx zb dX11_offer_41 rfl (lv_at hl 0 rfl) ?_
      refine lv_bipush (v := (-2)) zx zb dX11_offer_42 (by decide) ?_
      refine lv_sipush (v := (-1000)) zx zb dX11_offer_44 (by decide) ?_
      refine call_Vi (As := [.int (-2), .int (-1000)]) (rest := []) XX cv_X11_79 (c_X11_refused Γ l t s x V (-2) (-1000) ) hP hD hS hA [0] (by decide) rfl (fun _ => rfl) 0 0 rfl rfl rfl rfl hl.1 rfl ⟨⟨by decide, by decide⟩, by decide, by decide⟩ (Nat.le_of_ble_eq_true rfl) dX11_offer_47 (fun r_47 u H locs hw hP hD hS => ?_)
      obtain ⟨hw1, hw2⟩ := hw
      have hw1 := hw1.symm
      have hw2 := hw2.symm
      subst hw1
      subst hw2
      have hP : bP Γ [bTT Γ t s x (ttRef V (-2)), bSt Γ s c y p pc, bCo Γ c k C, bTs Γ c k tr, bKd Γ k, bYr Γ y Y, bSt Γ x d z p2 pc2, bCo Γ d k E, bTs Γ d k T, bYr Γ z Z] H := hP
      have hD : bD AA [bTT Γ t s x (ttRef V (-2)), bSt Γ s c y p pc, bCo Γ c k C, bTs Γ c k tr, bKd Γ k, bYr Γ y Y, bSt Γ x d z p2 pc2, bCo Γ d k E, bTs Γ d k T, bYr Γ z Z] := hD
      exact fin _ _ (-1000) ((ttRef V (-2)), E, T, Z) 50 _ dX11_offer_50 (fun h => by cases h) (⟨off_bad1 (tr := tr) (T := tr) (by unfold offOk; first | (simp only [c_5, Bool.false_and]; done) | (simp only [c_13, Bool.and_false, Bool.false_and]; done) | (simp only [decide_eq_false (Int32.not_le.mpr c_18), Bool.and_false, Bool.false_and]; done) | (simp only [c_28, Bool.and_false, Bool.false_and]; done) | (simp only [c_38, Bool.and_false]; done)), hB9⟩) hP hD hS
    · have c_13 : (stCell C b) = true := bI_ne c_13
      refine lv_iload_n zx zb dX11_offer_16 rfl (lv_at hl 1 rfl) ?_
      refine lv_iload_n zx zb dX11_offer_17 rfl (lv_at hl 2 rfl) ?_
      refine lv_icmp_gt (tgt := 41) zx zb dX11_offer_18 (by decide) (fun c_18 => ?_) (fun c_18 => ?_)
      · have c_18 : b < a := c_18
        refine lv_aload_n zx zb dX11_offer_41 rfl (lv_at hl 0 rfl) ?_
        refine lv_bipush (v := (-2)) zx zb dX11_offer_42 (by decide) ?_
        refine lv_sipush (v := (-1000)) zx zb dX11_offer_44 (by decide) ?_
        refine call_Vi (As := [.int (-2), .int (-1000)]) (rest := []) XX cv_X11_79 (c_X11_refused Γ l t s x V (-2) (-1000) ) hP hD hS hA [0] (by decide) rfl (fun _ => rfl) 0 0 rfl rfl rfl rfl hl.1 rfl ⟨⟨by decide, by decide⟩, by decide, by decide⟩ (Nat.le_of_ble_eq_true rfl) dX11_offer_47 (fun r_47 u H locs hw hP hD hS => ?_)
        obtain ⟨hw1, hw2⟩ := hw
        have hw1 := hw1.symm
        have hw2 := hw2.symm
        subst hw1
        subst hw2
        have hP : bP Γ [bTT Γ t s x (ttRef V (-2)), bSt Γ s c y p pc, bCo Γ c k C, bTs Γ c k tr, bKd Γ k, bYr Γ y Y, bSt Γ x d z p2 pc2, bCo Γ d k E, bTs Γ d k T, bYr Γ z Z] H := hP
        have hD : bD AA [bTT Γ t s x (ttRef V (-2)), bSt Γ s c y p pc, bCo Γ c k C, bTs Γ c k tr, bKd Γ k, bYr Γ y Y, bSt Γ x d z p2 pc2, bCo Γ d k E, bTs Γ d k T, bYr Γ z Z] := hD
        exact fin _ _ (-1000) ((ttRef V (-2)), E, T, Z) 50 _ dX11_offer_50 (fun h => by cases h) (⟨off_bad1 (tr := tr) (T := tr) (by unfold offOk; first | (simp only [c_5, Bool.false_and]; done) | (simp only [c_13, Bool.and_false, Bool.false_and]; done) | (simp only [decide_eq_false (Int32.not_le.mpr c_18), Bool.and_false, Bool.false_and]; done) | (simp only [c_28, Bool.and_false, Bool.false_and]; done) | (simp only [c_38, Bool.and_false]; done)), hB9⟩) hP hD hS
      · have c_18 : ¬ (b < a) := c_18
        refine lv_iload_n zx zb dX11_offer_21 rfl (lv_at hl 3 rfl) ?_
        refine lv_iconst (v := nI 1) zx zb dX11_offer_22 (by decide) ?_
        refine lv_bipush (v := nI 12) zx zb dX11_offer_23 (by decide) ?_
        refine callR_Si (As := [.int m, .int (nI 1), .int (nI 12)]) (rest := []) XX cs_X11_75 (c_X11_within Γ l m 1 12 ) hP hD hS hA nil_mem nil_D rfl hl.1 rfl ⟨⟨by decide, by decide⟩, by decide, by decide⟩ (Nat.le_of_ble_eq_true rfl) dX11_offer_25 (fun r_25 H locs hw hP hS => ?_)
        have hw := hw.symm
        subst hw
        refine lv_if_eq (tgt := 41) zx zb dX11_offer_28 (by decide) (fun c_28 => ?_) (fun c_28 => ?_)
        · have c_28 : (wi m 1 12) = false := bI_0.mp c_28
          refine lv_aload_n zx zb dX11_offer_41 rfl (lv_at hl 0 rfl) ?_
          refine lv_bipush (v := (-2)) zx zb dX11_offer_42 (by decide) ?_
          refine lv_sipush (v := (-1000)) zx zb dX11_offer_44 (by decide) ?_
          refine call_Vi (As := [.int (-2), .int (-1000)]) (rest := []) XX cv_X11_79 (c_X11_refused Γ l t s x V (-2) (-1000) ) hP hD hS hA [0] (by decide) rfl (fun _ => rfl) 0 0 rfl rfl rfl rfl hl.1 rfl ⟨⟨by decide, by decide⟩, by decide, by decide⟩ (Nat.le_of_ble_eq_true rfl) dX11_offer_47 (fun r_47 u H locs hw hP hD hS => ?_)
          obtain ⟨hw1, hw2⟩ := hw
          have hw1 := hw1.symm
          have hw2 := hw2.symm
          subst hw1
          subst hw2
          have hP : bP Γ [bTT Γ t s x (ttRef V (-2)), bSt Γ s c y p pc, bCo Γ c k C, bTs Γ c k tr, bKd Γ k, bYr Γ y Y, bSt Γ x d z p2 pc2, bCo Γ d k E, bTs Γ d k T, bYr Γ z Z] H := hP
          have hD : bD AA [bTT Γ t s x (ttRef V (-2)), bSt Γ s c y p pc, bCo Γ c k C, bTs Γ c k tr, bKd Γ k, bYr Γ y Y, bSt Γ x d z p2 pc2, bCo Γ d k E, bTs Γ d k T, bYr Γ z Z] := hD
          exact fin _ _ (-1000) ((ttRef V (-2)), E, T, Z) 50 _ dX11_offer_50 (fun h => by cases h) (⟨off_bad1 (tr := tr) (T := tr) (by unfold offOk; first | (simp only [c_5, Bool.false_and]; done) | (simp only [c_13, Bool.and_false, Bool.false_and]; done) | (simp only [decide_eq_false (Int32.not_le.mpr c_18), Bool.and_false, Bool.false_and]; done) | (simp only [c_28, Bool.and_false, Bool.false_and]; done) | (simp only [c_38, Bool.and_false]; done)), hB9⟩) hP hD hS
        · have c_28 : (wi m 1 12) = true := bI_ne c_28
          refine lv_iload zx zb dX11_offer_31 (lv_at hl 4 rfl) ?_
          refine lv_iconst (v := nI 0) zx zb dX11_offer_33 (by decide) ?_
          refine lv_iconst (v := nI 1) zx zb dX11_offer_34 (by decide) ?_
          refine callR_Si (As := [.int w, .int (nI 0), .int (nI 1)]) (rest := []) XX cs_X11_75 (c_X11_within Γ l w 0 1 ) hP hD hS hA nil_mem nil_D rfl hl.1 rfl ⟨⟨by decide, by decide⟩, by decide, by decide⟩ (Nat.le_of_ble_eq_true rfl) dX11_offer_35 (fun r_35 H locs hw hP hS => ?_)
          have hw := hw.symm
          subst hw
          refine lv_if_ne (tgt := 51) zx zb dX11_offer_38 (by decide) (fun c_38 => ?_) (fun c_38 => ?_)
          · have c_38 : (wi w 0 1) = true := bI_ne c_38
            refine lv_aload_n zx zb dX11_offer_51 rfl (lv_at hl 0 rfl) ?_
            refine g_get (v := .ref (s 0)) XX hP 0 0 rfl rfl rfl iwX11 0 (by decide) fl_X11_30 rfl dX11_offer_52 ?_
            refine g_get (v := .ref (c 0)) XX hP 1 0 rfl rfl rfl iwX8 0 (by decide) fl_X11_100 rfl dX11_offer_55 ?_
            refine g_get (v := .int (nI (C.2.2.2.2.2.2.1))) XX hP 2 0 rfl rfl rfl iwX2 8 (by decide) fl_X11_216 rfl dX11_offer_58 ?_
            refine lv_bipush (v := nI 6) zx zb dX11_offer_61 (by decide) ?_
            refine lv_icmp_lt (tgt := 76) zx zb dX11_offer_63 (by decide) (fun c_63 => ?_) (fun c_63 => ?_)
            · have c_63 : C.2.2.2.2.2.2.1 < 6 := (nI_ltI (a := C.2.2.2.2.2.2.1) (b := 6) (by omega) (by omega)).mp c_63
              obtain ⟨j, hj, rfl⟩ := wi_nat 1 12 c_28 rfl rfl (by decide)
              refine lv_aload_n zx zb dX11_offer_76 rfl (lv_at hl 0 rfl) ?_
              refine g_get (v := .ref (x 0)) XX hP 0 0 rfl rfl rfl iwX11 1 (by decide) fl_X11_36 rfl dX11_offer_77 ?_
              refine g_get (v := .ref (d 0)) XX hP 6 0 rfl rfl rfl iwX8 0 (by decide) fl_X11_100 rfl dX11_offer_80 ?_
              refine lv_aload_n zx zb dX11_offer_83 rfl (lv_at hl 0 rfl) ?_
              refine g_get (v := .ref (s 0)) XX hP 0 0 rfl rfl rfl iwX11 0 (by decide) fl_X11_30 rfl dX11_offer_84 ?_
              refine g_get (v := .ref (c 0)) XX hP 1 0 rfl rfl rfl iwX8 0 (by decide) fl_X11_100 rfl dX11_offer_87 ?_
              refine call_Vv (As := [.ref (c 0)]) (rest := []) XX cv_X11_138 (c_X2_copyOf Γ l d k E T c C tr (htc)) hP hD hS hA [7, 8, 2, 3] (by decide) rfl (fun _ => rfl) 7 0 rfl rfl rfl rfl hl.1 rfl ⟨⟨by decide, by decide⟩, by decide, by decide⟩ (Nat.le_of_ble_eq_true rfl) dX11_offer_90 (fun u H locs hw hP hD hS => ?_)
              have hw := hw.symm
              subst hw
              have hP : bP Γ [bTT Γ t s x V, bSt Γ s c y p pc, bCo Γ c k C, bTs Γ c k tr, bKd Γ k, bYr Γ y Y, bSt Γ x d z p2 pc2, bCo Γ d k ((C, trCpy tr T (coTc C)).1), bTs Γ d k ((C, trCpy tr T (coTc C)).2), bYr Γ z Z] H := hP
              have hD : bD AA [bTT Γ t s x V, bSt Γ s c y p pc, bCo Γ c k C, bTs Γ c k tr, bKd Γ k, bYr Γ y Y, bSt Γ x d z p2 pc2, bCo Γ d k ((C, trCpy tr T (coTc C)).1), bTs Γ d k ((C, trCpy tr T (coTc C)).2), bYr Γ z Z] := hD
              refine lv_bipush (v := nI 20) zx zb dX11_offer_93 (by decide) ?_
              refine lv_istore (lv' := [(5, .int (nI 20)), (0, .ref (t 0)), (1, .int a), (2, .int b), (3, .int (nI j)), (4, .int w)]) zx zb dX11_offer_95 hl (by decide) rfl (fun ls hl => ?_)
              have L97 : ∀ (nn : Nat) (q : Nat) (F : CoV) (U : Nat → TrV) (Q : YrV), (q ≤ 20) → (∀ n, coSetTc F n = coSetTc C n) → (∀ i, i < coTc C → U i = tr i) → (∀ i, i < 6 → (U i).1 < 6) → (∀ i, q < i → i ≤ 20 → offK C tr Y a b j i = false) → q < nn → ∀ (H : Heap) (locs : List Loc), bP Γ [bTT Γ t s x V, bSt Γ s c y p pc, bCo Γ c k C, bTs Γ c k tr, bKd Γ k, bYr Γ y Y, bSt Γ x d z p2 pc2, bCo Γ d k F, bTs Γ d k U, bYr Γ z Q] H → bD AA [bTT Γ t s x V, bSt Γ s c y p pc, bCo Γ c k C, bTs Γ c k tr, bKd Γ k, bYr Γ y Y, bSt Γ x d z p2 pc2, bCo Γ d k F, bTs Γ d k U, bYr Γ z Q] → va_S AA ss.heap H locs → ∀ (ls : Array Slot), lv_has ls 6 [(0, .ref (t 0)), (1, .int a), (2, .int b), (3, .int (nI j)), (4, .int w), (5, .int (nI q))] → W pp l ee { frames := 6, cells := 0, slots := 0, locals := 141 } ss mm [.ref (t 0), .int a, .int b, .int (nI j), .int w].toArray bb me cd H locs 0 0 QQ (F0 mm 97 ls []) := by
                intro nn
                induction nn with
                | zero => intro q F U Q hq hF hU hkU hp hm; exact absurd hm (Nat.not_lt_zero _)
                | succ nn ih97 =>
                  intro q F U Q hq hF hU hkU hp hm97 H locs hP hD hS ls hl
                  refine lv_aload_n zx zb dX11_offer_97 rfl (lv_at hl 0 rfl) ?_
                  refine lv_iload_n zx zb dX11_offer_98 rfl (lv_at hl 1 rfl) ?_
                  refine lv_iload_n zx zb dX11_offer_99 rfl (lv_at hl 2 rfl) ?_
                  refine lv_iload_n zx zb dX11_offer_100 rfl (lv_at hl 3 rfl) ?_
                  refine lv_iload zx zb dX11_offer_101 (lv_at hl 5 rfl) ?_
                  refine call_Vi (As := [.int a, .int b, .int (nI j), .int (nI q)]) (rest := []) XX cv_X11_219 (c_X11_isKept Γ l t s x V c k y p pc C Y d z p2 pc2 Q F U a b j (nI q) (show F.1 ≤ 8 from (congrArg Prod.fst (hF 0)) ▸ hn) (by omega) (hkU) (by omega)) hP hD hS hA [0, 1, 2, 5, 6, 7, 8, 4, 9] (by decide) rfl (fun _ => rfl) 0 0 rfl rfl rfl rfl hl.1 rfl ⟨⟨by decide, by decide⟩, by decide, by decide⟩ (Nat.le_of_ble_eq_true rfl) dX11_offer_103 (fun r_103 u H locs hw hP hD hS => ?_)
                  obtain ⟨u_103, rfl⟩ : ∃ z, z = u := ⟨_, rfl⟩
                  have w_103 := hw
                  have hP : bP Γ [bTT Γ t s x V, bSt Γ s c y p pc, bCo Γ c k C, bTs Γ c k tr, bKd Γ k, bYr Γ y Y, bSt Γ x d z p2 pc2, bCo Γ d k u_103.1, bTs Γ d k u_103.2.1, bYr Γ z u_103.2.2] H := hP
                  have hD : bD AA [bTT Γ t s x V, bSt Γ s c y p pc, bCo Γ c k C, bTs Γ c k tr, bKd Γ k, bYr Γ y Y, bSt Γ x d z p2 pc2, bCo Γ d k u_103.1, bTs Γ d k u_103.2.1, bYr Γ z u_103.2.2] := hD
                  obtain ⟨w1, w2, w3⟩ := w_103
                  rw [w2, w3] at hP hD
                  have w1 := w1.symm
                  subst w1
                  have ek := offK_eq (a := a) (b := b) (m := j) (q := q) (Y := Y) hF hU
                  refine lv_if_ne (tgt := 120) zx zb dX11_offer_106 (by decide) (fun c_106 => ?_) (fun c_106 => ?_)
                  · have c_106 : (allN (keptP (coSetTc F (coTc C + 1)) (offT U (coTc C) a b Y.1 (Y.1 + nI j) (nI q)) Y (coTc C)) j) = true := bI_ne c_106
                    refine lv_iload zx zb dX11_offer_120 (lv_at hl 4 rfl) ?_
                    refine lv_if_ne (tgt := 130) zx zb dX11_offer_122 (by decide) (fun c_122 => ?_) (fun c_122 => ?_)
                    · have c_122 : ¬ (w = (0 : Int32)) := c_122
                      refine lv_aload_n zx zb dX11_offer_130 rfl (lv_at hl 0 rfl) ?_
                      refine lv_aload_n zx zb dX11_offer_131 rfl (lv_at hl 0 rfl) ?_
                      refine g_get (v := .ref (s 0)) XX hP 0 0 rfl rfl rfl iwX11 0 (by decide) fl_X11_30 rfl dX11_offer_132 ?_
                      refine g_get (v := .ref (c 0)) XX hP 1 0 rfl rfl rfl iwX8 0 (by decide) fl_X11_100 rfl dX11_offer_135 ?_
                      refine lv_iload_n zx zb dX11_offer_138 rfl (lv_at hl 3 rfl) ?_
                      refine call_Vi (As := [.ref (c 0), .int (nI j)]) (rest := []) XX cv_X11_223 (c_X11_floodings Γ l t s x V c k y p pc c C tr Y d z p2 pc2 u_103.2.2 j (hn) (htc) (hkd) (by omega)) hP hD hS hA [0, 1, 5, 6, 2, 3, 4, 9] (by decide) rfl (fun _ => rfl) 0 0 rfl rfl rfl rfl hl.1 rfl ⟨⟨by decide, by decide⟩, by decide, by decide⟩ (Nat.le_of_ble_eq_true rfl) dX11_offer_139 (fun r_139 u H locs hw hP hD hS => ?_)
                      obtain ⟨hw1, hw2⟩ := hw
                      have hw1 := hw1.symm
                      have hw2 := hw2.symm
                      subst hw1
                      subst hw2
                      have hP : bP Γ [bTT Γ t s x V, bSt Γ s c y p pc, bCo Γ c k C, bTs Γ c k tr, bKd Γ k, bYr Γ y Y, bSt Γ x d z p2 pc2, bCo Γ d k (coSetTc F (coTc C + 1)), bTs Γ d k (offT U (coTc C) a b Y.1 (Y.1 + nI j) (nI q)), bYr Γ z (runM C tr Y j)] H := hP
                      have hD : bD AA [bTT Γ t s x V, bSt Γ s c y p pc, bCo Γ c k C, bTs Γ c k tr, bKd Γ k, bYr Γ y Y, bSt Γ x d z p2 pc2, bCo Γ d k (coSetTc F (coTc C + 1)), bTs Γ d k (offT U (coTc C) a b Y.1 (Y.1 + nI j) (nI q)), bYr Γ z (runM C tr Y j)] := hD
                      refine lv_aload_n zx zb dX11_offer_142 rfl (lv_at hl 0 rfl) ?_
                      refine lv_aload_n zx zb dX11_offer_143 rfl (lv_at hl 0 rfl) ?_
                      refine g_get (v := .ref (x 0)) XX hP 0 0 rfl rfl rfl iwX11 1 (by decide) fl_X11_36 rfl dX11_offer_144 ?_
                      refine g_get (v := .ref (d 0)) XX hP 6 0 rfl rfl rfl iwX8 0 (by decide) fl_X11_100 rfl dX11_offer_147 ?_
                      refine lv_iload_n zx zb dX11_offer_150 rfl (lv_at hl 3 rfl) ?_
                      refine call_Vi (As := [.ref (d 0), .int (nI j)]) (rest := [.int (popSum C tr Y j)]) XX cv_X11_223 (c_X11_floodings Γ l t s x V c k y p pc d (coSetTc F (coTc C + 1)) (offT U (coTc C) a b Y.1 (Y.1 + nI j) (nI q)) Y d z p2 pc2 (runM C tr Y j) j (show F.1 ≤ 8 from (congrArg Prod.fst (hF 0)) ▸ hn) (show coTc C + 1 ≤ 6 by show C.2.2.2.2.2.2.1 + 1 ≤ 6; omega) (hkd_up hkU (show 0 < 6 by decide)) (by omega)) hP hD hS hA [0, 1, 5, 6, 7, 8, 4, 9] (by decide) rfl (fun _ => rfl) 0 0 rfl rfl rfl rfl hl.1 rfl ⟨⟨by decide, by decide⟩, by decide, by decide⟩ (Nat.le_of_ble_eq_true rfl) dX11_offer_151 (fun r_151 u H locs hw hP hD hS => ?_)
                      obtain ⟨hw1, hw2⟩ := hw
                      have hw1 := hw1.symm
                      have hw2 := hw2.symm
                      subst hw1
                      subst hw2
                      have hP : bP Γ [bTT Γ t s x V, bSt Γ s c y p pc, bCo Γ c k C, bTs Γ c k tr, bKd Γ k, bYr Γ y Y, bSt Γ x d z p2 pc2, bCo Γ d k (coSetTc F (coTc C + 1)), bTs Γ d k (offT U (coTc C) a b Y.1 (Y.1 + nI j) (nI q)), bYr Γ z (runM (coSetTc F (coTc C + 1)) (offT U (coTc C) a b Y.1 (Y.1 + nI j) (nI q)) Y j)] H := hP
                      have hD : bD AA [bTT Γ t s x V, bSt Γ s c y p pc, bCo Γ c k C, bTs Γ c k tr, bKd Γ k, bYr Γ y Y, bSt Γ x d z p2 pc2, bCo Γ d k (coSetTc F (coTc C + 1)), bTs Γ d k (offT U (coTc C) a b Y.1 (Y.1 + nI j) (nI q)), bYr Γ z (runM (coSetTc F (coTc C + 1)) (offT U (coTc C) a b Y.1 (Y.1 + nI j) (nI q)) Y j)] := hD
                      refine lv_isub zx zb dX11_offer_154 ?_
                      exact fin _ _ ((popSum C tr Y j) - (popSum (coSetTc F (coTc C + 1)) (offT U (coTc C) a b Y.1 (Y.1 + nI j) (nI q)) Y j)) (V, (coSetTc F (coTc C + 1)), (offT U (coTc C) a b Y.1 (Y.1 + nI j) (nI q)), (runM (coSetTc F (coTc C + 1)) (offT U (coTc C) a b Y.1 (Y.1 + nI j) (nI q)) Y j)) 155 _ dX11_offer_155 (fun h => by cases h) (by first | exact ⟨off_end (by unfold offOk; simp only [c_5, c_13, c_28, c_38, decide_eq_true (Int32.not_lt.mp c_18)]; rfl) (by omega) (show coTc C < 6 by show C.2.2.2.2.2.2.1 < 6; omega) hF hU hp hq (Or.inl (ek ▸ c_106)) (by first | exact Or.inl ⟨c_122, rfl⟩ | exact Or.inr ⟨c_122, rfl⟩), show F.1 ≤ 8 from (congrArg Prod.fst (hF 0)) ▸ hn, show C.2.2.2.2.2.2.1 + 1 ≤ 6 by omega, hkd_up hkU (show 0 < 6 by decide)⟩ | exact ⟨off_end (by unfold offOk; simp only [c_5, c_13, c_28, c_38, decide_eq_true (Int32.not_lt.mp c_18)]; rfl) (by omega) (show coTc C < 6 by show C.2.2.2.2.2.2.1 < 6; omega) hF hU hp hq (Or.inr (by omega)) (by first | exact Or.inl ⟨c_122, rfl⟩ | exact Or.inr ⟨c_122, rfl⟩), show F.1 ≤ 8 from (congrArg Prod.fst (hF 0)) ▸ hn, show C.2.2.2.2.2.2.1 + 1 ≤ 6 by omega, hkd_up hkU (show 0 < 6 by decide)⟩) hP hD hS
                    · have c_122 : w = (0 : Int32) := c_122
                      refine lv_iload zx zb dX11_offer_125 (lv_at hl 5 rfl) ?_
                      refine lv_goto (tgt := 155) zx zb dX11_offer_127 (by decide) ?_
                      exact fin _ _ (nI q) (V, coSetTc F (coTc C + 1), offT U (coTc C) a b Y.1 (Y.1 + nI j) (nI q), u_103.2.2) 155 _ dX11_offer_155 (fun h => by cases h) (by first | exact ⟨off_end (by unfold offOk; simp only [c_5, c_13, c_28, c_38, decide_eq_true (Int32.not_lt.mp c_18)]; rfl) (by omega) (show coTc C < 6 by show C.2.2.2.2.2.2.1 < 6; omega) hF hU hp hq (Or.inl (ek ▸ c_106)) (by first | exact Or.inl ⟨c_122, rfl⟩ | exact Or.inr ⟨c_122, rfl⟩), show F.1 ≤ 8 from (congrArg Prod.fst (hF 0)) ▸ hn, show C.2.2.2.2.2.2.1 + 1 ≤ 6 by omega, hkd_up hkU (show 0 < 6 by decide)⟩ | exact ⟨off_end (by unfold offOk; simp only [c_5, c_13, c_28, c_38, decide_eq_true (Int32.not_lt.mp c_18)]; rfl) (by omega) (show coTc C < 6 by show C.2.2.2.2.2.2.1 < 6; omega) hF hU hp hq (Or.inr (by omega)) (by first | exact Or.inl ⟨c_122, rfl⟩ | exact Or.inr ⟨c_122, rfl⟩), show F.1 ≤ 8 from (congrArg Prod.fst (hF 0)) ▸ hn, show C.2.2.2.2.2.2.1 + 1 ≤ 6 by omega, hkd_up hkU (show 0 < 6 by decide)⟩) hP hD hS
                  · have c_106 : (allN (keptP (coSetTc F (coTc C + 1)) (offT U (coTc C) a b Y.1 (Y.1 + nI j) (nI q)) Y (coTc C)) j) = false := bI_0.mp c_106
                    refine lv_iload zx zb dX11_offer_109 (lv_at hl 5 rfl) ?_
                    refine lv_if_le (tgt := 120) zx zb dX11_offer_111 (by decide) (fun c_111 => ?_) (fun c_111 => ?_)
                    · have c_111 : q ≤ 0 := (nI_leI (a := q) (b := 0) (by omega) (by omega)).mp c_111
                      refine lv_iload zx zb dX11_offer_120 (lv_at hl 4 rfl) ?_
                      refine lv_if_ne (tgt := 130) zx zb dX11_offer_122 (by decide) (fun c_122 => ?_) (fun c_122 => ?_)
                      · have c_122 : ¬ (w = (0 : Int32)) := c_122
                        refine lv_aload_n zx zb dX11_offer_130 rfl (lv_at hl 0 rfl) ?_
                        refine lv_aload_n zx zb dX11_offer_131 rfl (lv_at hl 0 rfl) ?_
                        refine g_get (v := .ref (s 0)) XX hP 0 0 rfl rfl rfl iwX11 0 (by decide) fl_X11_30 rfl dX11_offer_132 ?_
                        refine g_get (v := .ref (c 0)) XX hP 1 0 rfl rfl rfl iwX8 0 (by decide) fl_X11_100 rfl dX11_offer_135 ?_
                        refine lv_iload_n zx zb dX11_offer_138 rfl (lv_at hl 3 rfl) ?_
                        refine call_Vi (As := [.ref (c 0), .int (nI j)]) (rest := []) XX cv_X11_223 (c_X11_floodings Γ l t s x V c k y p pc c C tr Y d z p2 pc2 u_103.2.2 j (hn) (htc) (hkd) (by omega)) hP hD hS hA [0, 1, 5, 6, 2, 3, 4, 9] (by decide) rfl (fun _ => rfl) 0 0 rfl rfl rfl rfl hl.1 rfl ⟨⟨by decide, by decide⟩, by decide, by decide⟩ (Nat.le_of_ble_eq_true rfl) dX11_offer_139 (fun r_139 u H locs hw hP hD hS => ?_)
                        obtain ⟨hw1, hw2⟩ := hw
                        have hw1 := hw1.symm
                        have hw2 := hw2.symm
                        subst hw1
                        subst hw2
                        have hP : bP Γ [bTT Γ t s x V, bSt Γ s c y p pc, bCo Γ c k C, bTs Γ c k tr, bKd Γ k, bYr Γ y Y, bSt Γ x d z p2 pc2, bCo Γ d k (coSetTc F (coTc C + 1)), bTs Γ d k (offT U (coTc C) a b Y.1 (Y.1 + nI j) (nI q)), bYr Γ z (runM C tr Y j)] H := hP
                        have hD : bD AA [bTT Γ t s x V, bSt Γ s c y p pc, bCo Γ c k C, bTs Γ c k tr, bKd Γ k, bYr Γ y Y, bSt Γ x d z p2 pc2, bCo Γ d k (coSetTc F (coTc C + 1)), bTs Γ d k (offT U (coTc C) a b Y.1 (Y.1 + nI j) (nI q)), bYr Γ z (runM C tr Y j)] := hD
                        refine lv_aload_n zx zb dX11_offer_142 rfl (lv_at hl 0 rfl) ?_
                        refine lv_aload_n zx zb dX11_offer_143 rfl (lv_at hl 0 rfl) ?_
                        refine g_get (v := .ref (x 0)) XX hP 0 0 rfl rfl rfl iwX11 1 (by decide) fl_X11_36 rfl dX11_offer_144 ?_
                        refine g_get (v := .ref (d 0)) XX hP 6 0 rfl rfl rfl iwX8 0 (by decide) fl_X11_100 rfl dX11_offer_147 ?_
                        refine lv_iload_n zx zb dX11_offer_150 rfl (lv_at hl 3 rfl) ?_
                        refine call_Vi (As := [.ref (d 0), .int (nI j)]) (rest := [.int (popSum C tr Y j)]) XX cv_X11_223 (c_X11_floodings Γ l t s x V c k y p pc d (coSetTc F (coTc C + 1)) (offT U (coTc C) a b Y.1 (Y.1 + nI j) (nI q)) Y d z p2 pc2 (runM C tr Y j) j (show F.1 ≤ 8 from (congrArg Prod.fst (hF 0)) ▸ hn) (show coTc C + 1 ≤ 6 by show C.2.2.2.2.2.2.1 + 1 ≤ 6; omega) (hkd_up hkU (show 0 < 6 by decide)) (by omega)) hP hD hS hA [0, 1, 5, 6, 7, 8, 4, 9] (by decide) rfl (fun _ => rfl) 0 0 rfl rfl rfl rfl hl.1 rfl ⟨⟨by decide, by decide⟩, by decide, by decide⟩ (Nat.le_of_ble_eq_true rfl) dX11_offer_151 (fun r_151 u H locs hw hP hD hS => ?_)
                        obtain ⟨hw1, hw2⟩ := hw
                        have hw1 := hw1.symm
                        have hw2 := hw2.symm
                        subst hw1
                        subst hw2
                        have hP : bP Γ [bTT Γ t s x V, bSt Γ s c y p pc, bCo Γ c k C, bTs Γ c k tr, bKd Γ k, bYr Γ y Y, bSt Γ x d z p2 pc2, bCo Γ d k (coSetTc F (coTc C + 1)), bTs Γ d k (offT U (coTc C) a b Y.1 (Y.1 + nI j) (nI q)), bYr Γ z (runM (coSetTc F (coTc C + 1)) (offT U (coTc C) a b Y.1 (Y.1 + nI j) (nI q)) Y j)] H := hP
                        have hD : bD AA [bTT Γ t s x V, bSt Γ s c y p pc, bCo Γ c k C, bTs Γ c k tr, bKd Γ k, bYr Γ y Y, bSt Γ x d z p2 pc2, bCo Γ d k (coSetTc F (coTc C + 1)), bTs Γ d k (offT U (coTc C) a b Y.1 (Y.1 + nI j) (nI q)), bYr Γ z (runM (coSetTc F (coTc C + 1)) (offT U (coTc C) a b Y.1 (Y.1 + nI j) (nI q)) Y j)] := hD
                        refine lv_isub zx zb dX11_offer_154 ?_
                        exact fin _ _ ((popSum C tr Y j) - (popSum (coSetTc F (coTc C + 1)) (offT U (coTc C) a b Y.1 (Y.1 + nI j) (nI q)) Y j)) (V, (coSetTc F (coTc C + 1)), (offT U (coTc C) a b Y.1 (Y.1 + nI j) (nI q)), (runM (coSetTc F (coTc C + 1)) (offT U (coTc C) a b Y.1 (Y.1 + nI j) (nI q)) Y j)) 155 _ dX11_offer_155 (fun h => by cases h) (by first | exact ⟨off_end (by unfold offOk; simp only [c_5, c_13, c_28, c_38, decide_eq_true (Int32.not_lt.mp c_18)]; rfl) (by omega) (show coTc C < 6 by show C.2.2.2.2.2.2.1 < 6; omega) hF hU hp hq (Or.inl (ek ▸ c_106)) (by first | exact Or.inl ⟨c_122, rfl⟩ | exact Or.inr ⟨c_122, rfl⟩), show F.1 ≤ 8 from (congrArg Prod.fst (hF 0)) ▸ hn, show C.2.2.2.2.2.2.1 + 1 ≤ 6 by omega, hkd_up hkU (show 0 < 6 by decide)⟩ | exact ⟨off_end (by unfold offOk; simp only [c_5, c_13, c_28, c_38, decide_eq_true (Int32.not_lt.mp c_18)]; rfl) (by omega) (show coTc C < 6 by show C.2.2.2.2.2.2.1 < 6; omega) hF hU hp hq (Or.inr (by omega)) (by first | exact Or.inl ⟨c_122, rfl⟩ | exact Or.inr ⟨c_122, rfl⟩), show F.1 ≤ 8 from (congrArg Prod.fst (hF 0)) ▸ hn, show C.2.2.2.2.2.2.1 + 1 ≤ 6 by omega, hkd_up hkU (show 0 < 6 by decide)⟩) hP hD hS
                      · have c_122 : w = (0 : Int32) := c_122
                        refine lv_iload zx zb dX11_offer_125 (lv_at hl 5 rfl) ?_
                        refine lv_goto (tgt := 155) zx zb dX11_offer_127 (by decide) ?_
                        exact fin _ _ (nI q) (V, coSetTc F (coTc C + 1), offT U (coTc C) a b Y.1 (Y.1 + nI j) (nI q), u_103.2.2) 155 _ dX11_offer_155 (fun h => by cases h) (by first | exact ⟨off_end (by unfold offOk; simp only [c_5, c_13, c_28, c_38, decide_eq_true (Int32.not_lt.mp c_18)]; rfl) (by omega) (show coTc C < 6 by show C.2.2.2.2.2.2.1 < 6; omega) hF hU hp hq (Or.inl (ek ▸ c_106)) (by first | exact Or.inl ⟨c_122, rfl⟩ | exact Or.inr ⟨c_122, rfl⟩), show F.1 ≤ 8 from (congrArg Prod.fst (hF 0)) ▸ hn, show C.2.2.2.2.2.2.1 + 1 ≤ 6 by omega, hkd_up hkU (show 0 < 6 by decide)⟩ | exact ⟨off_end (by unfold offOk; simp only [c_5, c_13, c_28, c_38, decide_eq_true (Int32.not_lt.mp c_18)]; rfl) (by omega) (show coTc C < 6 by show C.2.2.2.2.2.2.1 < 6; omega) hF hU hp hq (Or.inr (by omega)) (by first | exact Or.inl ⟨c_122, rfl⟩ | exact Or.inr ⟨c_122, rfl⟩), show F.1 ≤ 8 from (congrArg Prod.fst (hF 0)) ▸ hn, show C.2.2.2.2.2.2.1 + 1 ≤ 6 by omega, hkd_up hkU (show 0 < 6 by decide)⟩) hP hD hS
                    · have c_111 : ¬ (q ≤ 0) := fun h => c_111 ((nI_leI (a := q) (b := 0) (by omega) (by omega)).mpr h)
                      refine lv_iinc (v := nI (q - 1)) (lv' := [(5, .int (nI (q - 1))), (0, .ref (t 0)), (1, .int a), (2, .int b), (3, .int (nI j)), (4, .int w)]) zx zb dX11_offer_114 hl (k := 5) rfl (dec1 (by omega)) (by decide) rfl (fun ls hl => ?_)
                      refine lv_goto (tgt := 97) zx zb dX11_offer_117 (by decide) ?_
                      exact ih97 (q - 1) (coSetTc F (coTc C + 1)) (offT U (coTc C) a b Y.1 (Y.1 + nI j) (nI q)) u_103.2.2 (by omega) (fun n => hF n) (off_hU hU) (hkd_up hkU (show 0 < 6 by decide)) (off_hp hp (ek ▸ c_106) c_111) (by omega) _ _ hP hD hS _ (lv_sub hl [1, 2, 3, 4, 5, 0] rfl)
              exact L97 _ 20 ((C, trCpy tr T (coTc C)).1) ((C, trCpy tr T (coTc C)).2) Z (by omega) (fun _ => rfl) (trCpy_lt) (trCpy_kd hkd hkT) (fun i h1 h2 => absurd h1 (by omega)) (Nat.lt_succ_self _) _ _ hP hD hS _ (lv_sub hl [1, 2, 3, 4, 5, 0] rfl)
            · have c_63 : ¬ (C.2.2.2.2.2.2.1 < 6) := fun h => c_63 ((nI_ltI (a := C.2.2.2.2.2.2.1) (b := 6) (by omega) (by omega)).mpr h)
              refine lv_aload_n zx zb dX11_offer_66 rfl (lv_at hl 0 rfl) ?_
              refine lv_bipush (v := (-3)) zx zb dX11_offer_67 (by decide) ?_
              refine lv_sipush (v := (-2000)) zx zb dX11_offer_69 (by decide) ?_
              refine call_Vi (As := [.int (-3), .int (-2000)]) (rest := []) XX cv_X11_79 (c_X11_refused Γ l t s x V (-3) (-2000) ) hP hD hS hA [0] (by decide) rfl (fun _ => rfl) 0 0 rfl rfl rfl rfl hl.1 rfl ⟨⟨by decide, by decide⟩, by decide, by decide⟩ (Nat.le_of_ble_eq_true rfl) dX11_offer_72 (fun r_72 u H locs hw hP hD hS => ?_)
              obtain ⟨hw1, hw2⟩ := hw
              have hw1 := hw1.symm
              have hw2 := hw2.symm
              subst hw1
              subst hw2
              have hP : bP Γ [bTT Γ t s x (ttRef V (-3)), bSt Γ s c y p pc, bCo Γ c k C, bTs Γ c k tr, bKd Γ k, bYr Γ y Y, bSt Γ x d z p2 pc2, bCo Γ d k E, bTs Γ d k T, bYr Γ z Z] H := hP
              have hD : bD AA [bTT Γ t s x (ttRef V (-3)), bSt Γ s c y p pc, bCo Γ c k C, bTs Γ c k tr, bKd Γ k, bYr Γ y Y, bSt Γ x d z p2 pc2, bCo Γ d k E, bTs Γ d k T, bYr Γ z Z] := hD
              exact fin _ _ (-2000) ((ttRef V (-3)), E, T, Z) 75 _ dX11_offer_75 (fun h => by cases h) (⟨off_bad2 (by unfold offOk; simp only [c_5, c_13, c_28, c_38, decide_eq_true (Int32.not_lt.mp c_18)]; rfl) (show ¬ coTc C < 6 by show ¬ C.2.2.2.2.2.2.1 < 6; omega), hB9⟩) hP hD hS
          · have c_38 : (wi w 0 1) = false := bI_0.mp c_38
            refine lv_aload_n zx zb dX11_offer_41 rfl (lv_at hl 0 rfl) ?_
            refine lv_bipush (v := (-2)) zx zb dX11_offer_42 (by decide) ?_
            refine lv_sipush (v := (-1000)) zx zb dX11_offer_44 (by decide) ?_
            refine call_Vi (As := [.int (-2), .int (-1000)]) (rest := []) XX cv_X11_79 (c_X11_refused Γ l t s x V (-2) (-1000) ) hP hD hS hA [0] (by decide) rfl (fun _ => rfl) 0 0 rfl rfl rfl rfl hl.1 rfl ⟨⟨by decide, by decide⟩, by decide, by decide⟩ (Nat.le_of_ble_eq_true rfl) dX11_offer_47 (fun r_47 u H locs hw hP hD hS => ?_)
            obtain ⟨hw1, hw2⟩ := hw
            have hw1 := hw1.symm
            have hw2 := hw2.symm
            subst hw1
            subst hw2
            have hP : bP Γ [bTT Γ t s x (ttRef V (-2)), bSt Γ s c y p pc, bCo Γ c k C, bTs Γ c k tr, bKd Γ k, bYr Γ y Y, bSt Γ x d z p2 pc2, bCo Γ d k E, bTs Γ d k T, bYr Γ z Z] H := hP
            have hD : bD AA [bTT Γ t s x (ttRef V (-2)), bSt Γ s c y p pc, bCo Γ c k C, bTs Γ c k tr, bKd Γ k, bYr Γ y Y, bSt Γ x d z p2 pc2, bCo Γ d k E, bTs Γ d k T, bYr Γ z Z] := hD
            exact fin _ _ (-1000) ((ttRef V (-2)), E, T, Z) 50 _ dX11_offer_50 (fun h => by cases h) (⟨off_bad1 (tr := tr) (T := tr) (by unfold offOk; first | (simp only [c_5, Bool.false_and]; done) | (simp only [c_13, Bool.and_false, Bool.false_and]; done) | (simp only [decide_eq_false (Int32.not_le.mpr c_18), Bool.and_false, Bool.false_and]; done) | (simp only [c_28, Bool.and_false, Bool.false_and]; done) | (simp only [c_38, Bool.and_false]; done)), hB9⟩) hP hD hS

set_option maxHeartbeats 4000000 in
set_option maxRecDepth 100000 in
theorem law_offer {pp : Program} {ee : Env} {ss : State} {mm : MethodId} {bb : List Frame} {me : Method} {cd : Code} {QQ : State → Prop} {AA : Nat → Prop} (Γ : GG) (l : Launch) {sa sn : Nat} {xs : Nat → Int32} {t m : Nat → Nat} {H : Heap} {locs : List Loc} {cells slots i : Nat} {ls : Array Slot} (XX : Cx pp ss mm #[.ref sa] cd cL_law 4 RL Γ) (hX : va_X sa sn xs ss ss.heap) (hbl : sa < ss.heap.size) (hbA : ¬ AA sa) (hA : ∀ q, ss.heap.size ≤ q → AA q) (hi : i + 7 ≤ sn) (hn : sn ≤ 448) (hcc : cells ≤ 590000) (hsl : slots ≤ 7000000) (hJ0 : LJ Γ AA ss.heap t m H locs) (hl : lv_has ls 4 [(0, .ref sa), (1, .ref (t 0)), (2, .ref (m 0)), (3, .int (nI i))]) (kk : ∀ (H : Heap) (locs : List Loc) (ls : Array Slot), LJ Γ AA ss.heap t m H locs → lv_has ls 4 [(0, .ref sa), (1, .ref (t 0)), (2, .ref (m 0)), (3, .int (nI (i + 7)))] → W pp l ee room_1 ss mm #[.ref sa] bb me cd H locs cells slots QQ (F0 mm 18 ls [])) : W pp l ee room_1 ss mm #[.ref sa] bb me cd H locs cells slots QQ (F0 mm 728 ls []) := by
  obtain ⟨s, x, c, k, y, p, d, z, p2, V, pc, C, tr, Y, P, pc2, E, T, Z, P2, f, L, tl, I0, I1, M, b, im, kp, e4, e5, rf, g, e8, e9, e10, ⟨hJ, hr, hB, ⟨hM, hLM, hL0, hg⟩, hF, hI0, hI1⟩, hP, hD, hS⟩ := hJ0
  obtain ⟨yy, hyy, hyb⟩ := hJ.1.2.2.2.2.2
  obtain ⟨zx, zb, hml, hown, hts, hK⟩ := id XX
  have hP : bP Γ [bTT Γ t s x V, bKd Γ k, bSt Γ s c y p pc, bCo Γ c k C, bTs Γ c k tr, bYr Γ y Y, bYr Γ (p 0) (P 0), bYr Γ (p 1) (P 1), bYr Γ (p 2) (P 2), bYr Γ (p 3) (P 3), bYr Γ (p 4) (P 4), bYr Γ (p 5) (P 5), bSt Γ x d z p2 pc2, bCo Γ d k E, bTs Γ d k T, bYr Γ z Z, bYr Γ (p2 0) (P2 0), bYr Γ (p2 1) (P2 1), bYr Γ (p2 2) (P2 2), bYr Γ (p2 3) (P2 3), bYr Γ (p2 4) (P2 4), bYr Γ (p2 5) (P2 5), [(t 1, .inl (Γ.2 3, 2, .inr (.inr (.inr (.inr f)))))], bSc Γ t L, bA Γ (t 3) 6 tl, I0, I1, bMo Γ m M, bA Γ (m 1) 259 b, bA Γ (m 2) 518 im, bZ Γ (m 3) 2 kp, bA Γ (m 4) 259 e4, bA Γ (m 5) 259 e5, bA Γ (m 6) 3 rf, bA Γ (m 7) 150 g, bA Γ (m 8) 350 e8, bA Γ (m 9) 6 e9, bA Γ (m 10) 8 e10] H := hP
  have hD : bD AA [bTT Γ t s x V, bKd Γ k, bSt Γ s c y p pc, bCo Γ c k C, bTs Γ c k tr, bYr Γ y Y, bYr Γ (p 0) (P 0), bYr Γ (p 1) (P 1), bYr Γ (p 2) (P 2), bYr Γ (p 3) (P 3), bYr Γ (p 4) (P 4), bYr Γ (p 5) (P 5), bSt Γ x d z p2 pc2, bCo Γ d k E, bTs Γ d k T, bYr Γ z Z, bYr Γ (p2 0) (P2 0), bYr Γ (p2 1) (P2 1), bYr Γ (p2 2) (P2 2), bYr Γ (p2 3) (P2 3), bYr Γ (p2 4) (P2 4), bYr Γ (p2 5) (P2 5), [(t 1, .inl (Γ.2 3, 2, .inr (.inr (.inr (.inr f)))))], bSc Γ t L, bA Γ (t 3) 6 tl, I0, I1, bMo Γ m M, bA Γ (m 1) 259 b, bA Γ (m 2) 518 im, bZ Γ (m 3) 2 kp, bA Γ (m 4) 259 e4, bA Γ (m 5) 259 e5, bA Γ (m 6) 3 rf, bA Γ (m 7) 150 g, bA Γ (m 8) 350 e8, bA Γ (m 9) 6 e9, bA Γ (m 10) 8 e10] := hD
  refine lv_aload_n zx zb dL_law_728 rfl (lv_at hl 1 rfl) ?_
  refine lg_arg 1 XX hX hbl hbA hS hl (by omega) (by omega) dL_law_729 dL_law_730 dL_law_731 (by decide) dL_law_732 dL_law_733 ?_
  refine lg_arg 2 XX hX hbl hbA hS hl (by omega) (by omega) dL_law_734 dL_law_735 dL_law_736 (by decide) dL_law_737 dL_law_738 ?_
  refine lg_arg 3 XX hX hbl hbA hS hl (by omega) (by omega) dL_law_739 dL_law_740 dL_law_741 (by decide) dL_law_742 dL_law_743 ?_
  refine lg_arg 4 XX hX hbl hbA hS hl (by omega) (by omega) dL_law_744 dL_law_745 dL_law_746 (by decide) dL_law_747 dL_law_748 ?_
  refine call_Vi (As := [.int (xs (i + 1)), .int (xs (i + 2)), .int (xs (i + 3)), .int (xs (i + 4))]) (rest := []) XX cv_L_98 (c_X11_offer_b Γ l t s x V c k y p pc C tr Y d z p2 pc2 Z E T (xs (i + 1)) (xs (i + 2)) (xs (i + 3)) (xs (i + 4)) (inv_n hJ.1.1) (inv_tc hJ.1.1) (inv_kd hJ.1.1) (hB.2.2) (hB)) hP hD hS hA [0, 2, 3, 4, 1, 5, 12, 13, 14, 15] (by decide) rfl (fun _ => rfl) 0 0 rfl rfl rfl rfl hl.1 rfl ⟨⟨by decide, by decide⟩, show cells + 0 ≤ 600000 by omega, show slots + 0 ≤ 7302250 by omega⟩ (Nat.le_of_ble_eq_true rfl) dL_law_749 (fun r_749 u H locs hw hP hD hS => ?_)
  obtain ⟨u_749, rfl⟩ : ∃ z, z = u := ⟨_, rfl⟩
  have w_749 := hw
  have hP : bP Γ [bTT Γ t s x u_749.1, bKd Γ k, bSt Γ s c y p pc, bCo Γ c k C, bTs Γ c k tr, bYr Γ y Y, bYr Γ (p 0) (P 0), bYr Γ (p 1) (P 1), bYr Γ (p 2) (P 2), bYr Γ (p 3) (P 3), bYr Γ (p 4) (P 4), bYr Γ (p 5) (P 5), bSt Γ x d z p2 pc2, bCo Γ d k u_749.2.1, bTs Γ d k u_749.2.2.1, bYr Γ z u_749.2.2.2, bYr Γ (p2 0) (P2 0), bYr Γ (p2 1) (P2 1), bYr Γ (p2 2) (P2 2), bYr Γ (p2 3) (P2 3), bYr Γ (p2 4) (P2 4), bYr Γ (p2 5) (P2 5), [(t 1, .inl (Γ.2 3, 2, .inr (.inr (.inr (.inr f)))))], bSc Γ t L, bA Γ (t 3) 6 tl, I0, I1, bMo Γ m M, bA Γ (m 1) 259 b, bA Γ (m 2) 518 im, bZ Γ (m 3) 2 kp, bA Γ (m 4) 259 e4, bA Γ (m 5) 259 e5, bA Γ (m 6) 3 rf, bA Γ (m 7) 150 g, bA Γ (m 8) 350 e8, bA Γ (m 9) 6 e9, bA Γ (m 10) 8 e10] H := hP
  have hD : bD AA [bTT Γ t s x u_749.1, bKd Γ k, bSt Γ s c y p pc, bCo Γ c k C, bTs Γ c k tr, bYr Γ y Y, bYr Γ (p 0) (P 0), bYr Γ (p 1) (P 1), bYr Γ (p 2) (P 2), bYr Γ (p 3) (P 3), bYr Γ (p 4) (P 4), bYr Γ (p 5) (P 5), bSt Γ x d z p2 pc2, bCo Γ d k u_749.2.1, bTs Γ d k u_749.2.2.1, bYr Γ z u_749.2.2.2, bYr Γ (p2 0) (P2 0), bYr Γ (p2 1) (P2 1), bYr Γ (p2 2) (P2 2), bYr Γ (p2 3) (P2 3), bYr Γ (p2 4) (P2 4), bYr Γ (p2 5) (P2 5), [(t 1, .inl (Γ.2 3, 2, .inr (.inr (.inr (.inr f)))))], bSc Γ t L, bA Γ (t 3) 6 tl, I0, I1, bMo Γ m M, bA Γ (m 1) 259 b, bA Γ (m 2) 518 im, bZ Γ (m 3) 2 kp, bA Γ (m 4) 259 e4, bA Γ (m 5) 259 e5, bA Γ (m 6) 3 rf, bA Γ (m 7) 150 g, bA Γ (m 8) 350 e8, bA Γ (m 9) 6 e9, bA Γ (m 10) 8 e10] := hD
  refine lv_aload_n zx zb dL_law_752 rfl (lv_at hl 2 rfl) ?_
  refine lg_arg 1 XX hX hbl hbA hS hl (by omega) (by omega) dL_law_753 dL_law_754 dL_law_755 (by decide) dL_law_756 dL_law_757 ?_
  refine lg_arg 2 XX hX hbl hbA hS hl (by omega) (by omega) dL_law_758 dL_law_759 dL_law_760 (by decide) dL_law_761 dL_law_762 ?_
  refine lg_arg 3 XX hX hbl hbA hS hl (by omega) (by omega) dL_law_763 dL_law_764 dL_law_765 (by decide) dL_law_766 dL_law_767 ?_
  refine lg_arg 4 XX hX hbl hbA hS hl (by omega) (by omega) dL_law_768 dL_law_769 dL_law_770 (by decide) dL_law_771 dL_law_772 ?_
  refine call_Vi (As := [.int (xs (i + 1)), .int (xs (i + 2)), .int (xs (i + 3)), .int (xs (i + 4))]) (rest := [.int r_749]) XX cv_L_101 (c_X12_offer Γ l m M b C tr Y pc P e5 rf yy (xs (i + 1)) (xs (i + 2)) (xs (i + 3)) (xs (i + 4)) (hr) (hJ.1.1) (hJ.1.2.1) (hJ.1.2.2.1) (hJ.2.1) (hyy) ((by omega))) hP hD hS hA [27, 28, 32, 33] (by decide) rfl (fun _ => rfl) 27 0 rfl rfl rfl rfl hl.1 rfl ⟨⟨by decide, by decide⟩, show cells + 0 ≤ 600000 by omega, show slots + 0 ≤ 7302250 by omega⟩ (Nat.le_of_ble_eq_true rfl) dL_law_773 (fun r_773 u H locs hw hP hD hS => ?_)
  obtain ⟨u_773, rfl⟩ : ∃ z, z = u := ⟨_, rfl⟩
  have w_773 := hw
  have hP : bP Γ [bTT Γ t s x u_749.1, bKd Γ k, bSt Γ s c y p pc, bCo Γ c k C, bTs Γ c k tr, bYr Γ y Y, bYr Γ (p 0) (P 0), bYr Γ (p 1) (P 1), bYr Γ (p 2) (P 2), bYr Γ (p 3) (P 3), bYr Γ (p 4) (P 4), bYr Γ (p 5) (P 5), bSt Γ x d z p2 pc2, bCo Γ d k u_749.2.1, bTs Γ d k u_749.2.2.1, bYr Γ z u_749.2.2.2, bYr Γ (p2 0) (P2 0), bYr Γ (p2 1) (P2 1), bYr Γ (p2 2) (P2 2), bYr Γ (p2 3) (P2 3), bYr Γ (p2 4) (P2 4), bYr Γ (p2 5) (P2 5), [(t 1, .inl (Γ.2 3, 2, .inr (.inr (.inr (.inr f)))))], bSc Γ t L, bA Γ (t 3) 6 tl, I0, I1, bMo Γ m M, bA Γ (m 1) 259 u_773.1, bA Γ (m 2) 518 im, bZ Γ (m 3) 2 kp, bA Γ (m 4) 259 e4, bA Γ (m 5) 259 u_773.2.1, bA Γ (m 6) 3 u_773.2.2, bA Γ (m 7) 150 g, bA Γ (m 8) 350 e8, bA Γ (m 9) 6 e9, bA Γ (m 10) 8 e10] H := hP
  have hD : bD AA [bTT Γ t s x u_749.1, bKd Γ k, bSt Γ s c y p pc, bCo Γ c k C, bTs Γ c k tr, bYr Γ y Y, bYr Γ (p 0) (P 0), bYr Γ (p 1) (P 1), bYr Γ (p 2) (P 2), bYr Γ (p 3) (P 3), bYr Γ (p 4) (P 4), bYr Γ (p 5) (P 5), bSt Γ x d z p2 pc2, bCo Γ d k u_749.2.1, bTs Γ d k u_749.2.2.1, bYr Γ z u_749.2.2.2, bYr Γ (p2 0) (P2 0), bYr Γ (p2 1) (P2 1), bYr Γ (p2 2) (P2 2), bYr Γ (p2 3) (P2 3), bYr Γ (p2 4) (P2 4), bYr Γ (p2 5) (P2 5), [(t 1, .inl (Γ.2 3, 2, .inr (.inr (.inr (.inr f)))))], bSc Γ t L, bA Γ (t 3) 6 tl, I0, I1, bMo Γ m M, bA Γ (m 1) 259 u_773.1, bA Γ (m 2) 518 im, bZ Γ (m 3) 2 kp, bA Γ (m 4) 259 e4, bA Γ (m 5) 259 u_773.2.1, bA Γ (m 6) 3 u_773.2.2, bA Γ (m 7) 150 g, bA Γ (m 8) 350 e8, bA Γ (m 9) 6 e9, bA Γ (m 10) 8 e10] := hD
  refine lv_icmp_eq (tgt := 1256) zx zb dL_law_776 (by decide) (fun c_776 => ?_) (fun c_776 => ?_)
  · have c_776 : r_749 = r_773 := c_776
    refine lv_iinc (v := nI (i + 7)) (lv' := [(3, .int (nI (i + 7))), (0, .ref sa), (1, .ref (t 0)), (2, .ref (m 0))]) zx zb dL_law_1256 hl (k := 3) rfl (nI_inc _ 7) (by decide) rfl (fun ls hl => ?_)
    refine lv_goto (tgt := 18) zx zb dL_law_1259 (by decide) ?_
    exact kk _ _ ls ⟨s, x, c, k, y, p, d, z, p2, u_749.1, pc, C, tr, Y, P, pc2, u_749.2.1, u_749.2.2.1, u_749.2.2.2, P2, f, L, tl, I0, I1, M, u_773.1, im, kp, e4, u_773.2.1, u_773.2.2, g, e8, e9, e10, ⟨hJ, w_773.2.1, w_749.2, ⟨hM, hLM, hL0, hg⟩, (by rw [w_773.2.2, w_749.1.2]; exact fv_of hF hM), hI0, hI1⟩, hP, hD, hS⟩ (lv_sub hl [1, 2, 3, 0] rfl)
  · have c_776 : ¬ (r_749 = r_773) := c_776
    exact absurd (w_749.1.1.trans w_773.1.symm) c_776
