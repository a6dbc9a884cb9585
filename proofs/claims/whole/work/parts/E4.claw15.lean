
theorem lg_gt {i n : Nat} (hi : i ≤ 1000) (hn : n ≤ 448) : nI n - nI 7 < nI i ↔ ¬ i + 7 ≤ n := by
  rw [Int32.lt_iff_toInt_lt, show (nI n - nI 7).toInt = (n : Int) - ((7 : Nat) : Int) from i32_toInt_ofNat_sub (show n < 2 ^ 31 by omega) (show 7 < 2 ^ 31 by omega), nI_toInt (show i < 2 ^ 31 by omega)]
  omega
theorem lg_63 (x : Int32) : ∃ j : Nat, j < 64 ∧ x &&& nI 63 = nI j := by
  refine ⟨(x.toBitVec &&& 63#32).toNat, ?_, ?_⟩
  · rw [BitVec.toNat_and]
    exact Nat.lt_of_le_of_lt Nat.and_le_right (by decide)
  · apply Int32.toBitVec_inj.mp
    rw [Int32.toBitVec_and]
    show x.toBitVec &&& (nI 63).toBitVec = BitVec.ofNat 32 (x.toBitVec &&& 63#32).toNat
    rw [BitVec.ofNat_toNat, BitVec.setWidth_eq]
    rfl
theorem lj_S {Γ : GG} {A : Nat → Prop} {H0 : Heap} {t m : Nat → Nat} {H : Heap} {locs : List Loc} (h : LJ Γ A H0 t m H locs) : va_S A H0 H locs := by
  obtain ⟨s, x, c, k, y, p, d, z, p2, V, pc, C, tr, Y, P, pc2, E, T, Z, P2, f, L, tl, I0, I1, M, b, im, kp, e4, e5, rf, g, e8, e9, e10, -, -, -, hS⟩ := h
  exact hS

set_option maxHeartbeats 4000000 in
set_option maxRecDepth 100000 in
/-- one turn of the law -/
theorem law_turn {pp : Program} {ee : Env} {ss : State} {mm : MethodId} {bb : List Frame} {me : Method} {cd : Code} {QQ : State → Prop} {AA : Nat → Prop} (Γ : GG) (l : Launch) {K : AK} {sa sn : Nat} {xs : Nat → Int32} {t m : Nat → Nat} {H : Heap} {locs : List Loc} {cells slots i : Nat} {ls : Array Slot} (XX : Cx pp ss mm #[.ref sa] cd cL_law 4 RL Γ) (hLT : LT K AA ss ss.heap) (hX : va_X sa sn xs ss ss.heap) (hbl : sa < ss.heap.size) (hbA : ¬ AA sa) (hA : ∀ q, ss.heap.size ≤ q → AA q) (hn : sn ≤ 448) (hi0 : i ≤ 1000) (hcc : cells ≤ 590000) (hsl : slots ≤ 7000000) (hJ0 : LJ Γ AA ss.heap t m H locs) (hl : lv_has ls 4 [(0, .ref sa), (1, .ref (t 0)), (2, .ref (m 0)), (3, .int (nI i))]) (kk : i + 7 ≤ sn → ∀ (H : Heap) (locs : List Loc) (ls : Array Slot), LJ Γ AA ss.heap t m H locs → lv_has ls 4 [(0, .ref sa), (1, .ref (t 0)), (2, .ref (m 0)), (3, .int (nI (i + 7)))] → W pp l ee room_1 ss mm #[.ref sa] bb me cd H locs (cells + 38) (slots + 274) QQ (F0 mm 18 ls [])) (kx : ∀ (ls : Array Slot), W pp l ee room_1 ss mm #[.ref sa] bb me cd H locs cells slots QQ (F0 mm 1262 ls [])) : W pp l ee room_1 ss mm #[.ref sa] bb me cd H locs cells slots QQ (F0 mm 18 ls []) := by
  obtain ⟨zx, zb, hml, hown, hts, hK⟩ := id XX
  have hS := lj_S hJ0
  refine lv_iload_n zx zb dL_law_18 rfl (lv_at hl 3 rfl) ?_
  refine lv_aload_n zx zb dL_law_19 rfl (lv_at hl 0 rfl) ?_
  refine va_slen zx zb hX hbl hbA hS dL_law_20 ?_
  refine lv_bipush (v := nI 7) zx zb dL_law_21 (by decide) ?_
  refine lv_isub zx zb dL_law_23 ?_
  refine lv_icmp_gt (tgt := 1262) zx zb dL_law_24 (by decide) (fun _ => kx ls) (fun c_24 => ?_)
  have hi : i + 7 ≤ sn := by
    have c_24 : ¬ nI sn - nI 7 < nI i := c_24
    rw [lg_gt hi0 hn] at c_24
    exact Decidable.of_not_not c_24
  have hk : ∀ (H : Heap) (locs : List Loc) (ls : Array Slot), LJ Γ AA ss.heap t m H locs → lv_has ls 4 [(0, .ref sa), (1, .ref (t 0)), (2, .ref (m 0)), (3, .int (nI (i + 7)))] → W pp l ee room_1 ss mm #[.ref sa] bb me cd H locs cells slots QQ (F0 mm 18 ls []) := fun H locs ls h1 h2 => W.widen (k := cells + 38) (n := slots + 274) (by omega) (by omega) (kk hi H locs ls h1 h2)
  refine lv_aload_n zx zb dL_law_27 rfl (lv_at hl 0 rfl) ?_
  refine lv_iload_n zx zb dL_law_28 rfl (lv_at hl 3 rfl) ?_
  refine va_sld zx zb hX hbl hbA hS (lg_in (show i < sn by omega) (by omega)) dL_law_29 ?_
  rw [nI_clamp (show i < 2 ^ 31 by omega)]
  refine lv_bipush (v := nI 63) zx zb dL_law_30 (by decide) ?_
  refine lv_iand zx zb dL_law_32 ?_
  obtain ⟨j, hj, ej⟩ := lg_63 (xs i)
  rw [ej]
  by_cases h37 : 37 ≤ j
  · refine lv_tableOut (tgt := 1256) zx zb dL_law_33 (Or.inr (by rw [nI_toInt (show j < 2 ^ 31 by omega)]; omega)) (by decide) ?_
    refine lv_iinc (v := nI (i + 7)) (lv' := [(3, .int (nI (i + 7))), (0, .ref sa), (1, .ref (t 0)), (2, .ref (m 0))]) zx zb dL_law_1256 hl (k := 3) rfl (nI_inc _ 7) (by decide) rfl (fun ls hl => ?_)
    refine lv_goto (tgt := 18) zx zb dL_law_1259 (by decide) ?_
    exact hk _ _ ls hJ0 (lv_sub hl [1, 2, 3, 0] rfl)
  have h36 : j = 0 ∨ j = 1 ∨ j = 2 ∨ j = 3 ∨ j = 4 ∨ j = 5 ∨ j = 6 ∨ j = 7 ∨ j = 8 ∨ j = 9 ∨ j = 10 ∨ j = 11 ∨ j = 12 ∨ j = 13 ∨ j = 14 ∨ j = 15 ∨ j = 16 ∨ j = 17 ∨ j = 18 ∨ j = 19 ∨ j = 20 ∨ j = 21 ∨ j = 22 ∨ j = 23 ∨ j = 24 ∨ j = 25 ∨ j = 26 ∨ j = 27 ∨ j = 28 ∨ j = 29 ∨ j = 30 ∨ j = 31 ∨ j = 32 ∨ j = 33 ∨ j = 34 ∨ j = 35 ∨ j = 36 := by omega
  clear ej hj h37
  rcases h36 with rfl | rfl | rfl | rfl | rfl | rfl | rfl | rfl | rfl | rfl | rfl | rfl | rfl | rfl | rfl | rfl | rfl | rfl | rfl | rfl | rfl | rfl | rfl | rfl | rfl | rfl | rfl | rfl | rfl | rfl | rfl | rfl | rfl | rfl | rfl | rfl | rfl
  · refine lv_tableIn (off := 163) (tgt := 196) zx zb dL_law_33 (by decide) (by decide) rfl (by decide) ?_
    exact law_coast Γ l XX hX hbl hbA hA hi hn hcc hsl hJ0 hl hk
  · refine lv_tableIn (off := 186) (tgt := 219) zx zb dL_law_33 (by decide) (by decide) rfl (by decide) ?_
    exact law_cell Γ l XX hX hbl hbA hA hi hn hcc hsl hJ0 hl hk
  · refine lv_tableIn (off := 239) (tgt := 272) zx zb dL_law_33 (by decide) (by decide) rfl (by decide) ?_
    exact law_dike Γ l XX hX hbl hbA hA hi hn hcc hsl hJ0 hl hk
  · refine lv_tableIn (off := 272) (tgt := 305) zx zb dL_law_33 (by decide) (by decide) rfl (by decide) ?_
    exact law_want Γ l XX hX hbl hbA hA hi hn hcc hsl hJ0 hl hk
  · refine lv_tableIn (off := 305) (tgt := 338) zx zb dL_law_33 (by decide) (by decide) rfl (by decide) ?_
    exact law_moon Γ l XX hX hbl hbA hA hi hn hcc hsl hJ0 hl hk
  · refine lv_tableIn (off := 328) (tgt := 361) zx zb dL_law_33 (by decide) (by decide) rfl (by decide) ?_
    exact law_bells Γ l XX hX hbl hbA hA hi hn hcc hsl hJ0 hl hk
  · refine lv_tableIn (off := 351) (tgt := 384) zx zb dL_law_33 (by decide) (by decide) rfl (by decide) ?_
    exact law_treaty Γ l XX hX hbl hbA hA hi hn hcc hsl hJ0 hl hk
  · refine lv_tableIn (off := 426) (tgt := 459) zx zb dL_law_33 (by decide) (by decide) rfl (by decide) ?_
    exact law_end Γ l XX hX hbl hbA hA hi hn hcc hsl hJ0 hl hk
  · refine lv_tableIn (off := 449) (tgt := 482) zx zb dL_law_33 (by decide) (by decide) rfl (by decide) ?_
    exact law_type Γ l XX hX hbl hbA hA hi hn hcc hsl hJ0 hl hk
  · refine lv_tableIn (off := 472) (tgt := 505) zx zb dL_law_33 (by decide) (by decide) rfl (by decide) ?_
    exact law_clear Γ l XX hX hbl hbA hA hi hn hcc hsl hJ0 hl hk
  · refine lv_tableIn (off := 485) (tgt := 518) zx zb dL_law_33 (by decide) (by decide) rfl (by decide) ?_
    exact law_read Γ l XX hLT hX hbl hbA hA hi hn hcc hsl hJ0 hl hk
  · refine lv_tableIn (off := 498) (tgt := 531) zx zb dL_law_33 (by decide) (by decide) rfl (by decide) ?_
    exact law_year Γ l XX hX hbl hbA hA hi hn hcc hsl hJ0 hl hk
  · refine lv_tableIn (off := 521) (tgt := 554) zx zb dL_law_33 (by decide) (by decide) rfl (by decide) ?_
    exact law_undo Γ l XX hX hbl hbA hA hi hn hcc hsl hJ0 hl hk
  · refine lv_tableIn (off := 534) (tgt := 567) zx zb dL_law_33 (by decide) (by decide) rfl (by decide) ?_
    exact law_of Γ l XX hX hbl hbA hA hi hn hcc hsl hJ0 hl hk
  · refine lv_tableIn (off := 567) (tgt := 600) zx zb dL_law_33 (by decide) (by decide) rfl (by decide) ?_
    exact law_about Γ l XX hX hbl hbA hA hi hn hcc hsl hJ0 hl hk
  · refine lv_tableIn (off := 600) (tgt := 633) zx zb dL_law_33 (by decide) (by decide) rfl (by decide) ?_
    exact law_storm Γ l XX hX hbl hbA hA hi hn hcc hsl hJ0 hl hk
  · refine lv_tableIn (off := 623) (tgt := 656) zx zb dL_law_33 (by decide) (by decide) rfl (by decide) ?_
    exact law_guarded Γ l XX hX hbl hbA hA hi hn hcc hsl hJ0 hl hk
  · refine lv_tableIn (off := 636) (tgt := 669) zx zb dL_law_33 (by decide) (by decide) rfl (by decide) ?_
    exact law_wet Γ l XX hX hbl hbA hA hi hn hcc hsl hJ0 hl hk
  · refine lv_tableIn (off := 649) (tgt := 682) zx zb dL_law_33 (by decide) (by decide) rfl (by decide) ?_
    exact law_then Γ l XX hX hbl hbA hA hi hn hcc hsl hJ0 hl hk
  · refine lv_tableIn (off := 682) (tgt := 715) zx zb dL_law_33 (by decide) (by decide) rfl (by decide) ?_
    exact law_firstLost Γ l XX hX hbl hbA hA hi hn hcc hsl hJ0 hl hk
  · refine lv_tableIn (off := 695) (tgt := 728) zx zb dL_law_33 (by decide) (by decide) rfl (by decide) ?_
    exact law_offer Γ l XX hX hbl hbA hA hi hn hcc hsl hJ0 hl hk
  · refine lv_tableIn (off := 748) (tgt := 781) zx zb dL_law_33 (by decide) (by decide) rfl (by decide) ?_
    exact law_cheapest Γ l XX hX hbl hbA hA hi hn hcc hsl hJ0 hl hk
  · refine lv_tableIn (off := 791) (tgt := 824) zx zb dL_law_33 (by decide) (by decide) rfl (by decide) ?_
    exact law_clashes Γ l XX hX hbl hbA hA hi hn hcc hsl hJ0 hl hk
  · refine lv_tableIn (off := 814) (tgt := 847) zx zb dL_law_33 (by decide) (by decide) rfl (by decide) ?_
    exact law_mend Γ l XX hX hbl hbA hA hi hn hcc hsl hJ0 hl hk
  · refine lv_tableIn (off := 827) (tgt := 860) zx zb dL_law_33 (by decide) (by decide) rfl (by decide) ?_
    exact law_letsIn Γ l XX hX hbl hbA hA hi hn hcc hsl hJ0 hl hk
  · refine lv_tableIn (off := 860) (tgt := 893) zx zb dL_law_33 (by decide) (by decide) rfl (by decide) ?_
    exact law_rests Γ l XX hX hbl hbA hA hi hn hcc hsl hJ0 hl hk
  · refine lv_tableIn (off := 883) (tgt := 916) zx zb dL_law_33 (by decide) (by decide) rfl (by decide) ?_
    exact law_tide Γ l XX hX hbl hbA hA hi hn hcc hsl hJ0 hl hk
  · refine lv_tableIn (off := 942) (tgt := 975) zx zb dL_law_33 (by decide) (by decide) rfl (by decide) ?_
    exact law_learnt Γ l XX hX hbl hbA hA hi hn hcc hsl hJ0 hl hk
  · refine lv_tableIn (off := 975) (tgt := 1008) zx zb dL_law_33 (by decide) (by decide) rfl (by decide) ?_
    exact law_shells Γ l XX hX hbl hbA hA hi hn hcc hsl hJ0 hl hk
  · refine lv_tableIn (off := 1008) (tgt := 1041) zx zb dL_law_33 (by decide) (by decide) rfl (by decide) ?_
    exact law_vote Γ l XX hX hbl hbA hA hi hn hcc hsl hJ0 hl hk
  · refine lv_tableIn (off := 1051) (tgt := 1084) zx zb dL_law_33 (by decide) (by decide) rfl (by decide) ?_
    exact law_drawn Γ l XX hX hbl hbA hA hi hn hcc hsl hJ0 hl hk
  · refine lv_tableIn (off := 1094) (tgt := 1127) zx zb dL_law_33 (by decide) (by decide) rfl (by decide) ?_
    exact law_burn Γ l XX hX hbl hbA hA hi hn hcc hsl hJ0 hl hk
  · refine lv_tableIn (off := 1117) (tgt := 1150) zx zb dL_law_33 (by decide) (by decide) rfl (by decide) ?_
    exact law_image Γ l XX hX hbl hbA hA hi hn hcc hsl hJ0 hl (kk hi)
  · refine lv_tableIn (off := 1140) (tgt := 1173) zx zb dL_law_33 (by decide) (by decide) rfl (by decide) ?_
    exact law_from Γ l XX hX hbl hbA hA hi hn hcc hsl hJ0 hl hk
  · refine lv_tableIn (off := 1163) (tgt := 1196) zx zb dL_law_33 (by decide) (by decide) rfl (by decide) ?_
    exact law_status Γ l XX hX hbl hbA hA hi hn hcc hsl hJ0 hl hk
  · refine lv_tableIn (off := 1186) (tgt := 1219) zx zb dL_law_33 (by decide) (by decide) rfl (by decide) ?_
    exact law_count Γ l XX hX hbl hbA hA hi hn hcc hsl hJ0 hl hk
  · refine lv_tableIn (off := 1209) (tgt := 1242) zx zb dL_law_33 (by decide) (by decide) rfl (by decide) ?_
    exact law_tail Γ l XX hX hbl hbA hA hi hn hcc hsl hJ0 hl hk

set_option maxHeartbeats 4000000 in
/-- the law's loop: 64 turns at most -/
theorem law_loop {pp : Program} {ee : Env} {ss : State} {mm : MethodId} {bb : List Frame} {me : Method} {cd : Code} {QQ : State → Prop} {AA : Nat → Prop} (Γ : GG) (l : Launch) {K : AK} {sa sn : Nat} {xs : Nat → Int32} {t m : Nat → Nat} (XX : Cx pp ss mm #[.ref sa] cd cL_law 4 RL Γ) (hLT : LT K AA ss ss.heap) (hX : va_X sa sn xs ss ss.heap) (hbl : sa < ss.heap.size) (hbA : ¬ AA sa) (hA : ∀ q, ss.heap.size ≤ q → AA q) (hn : sn ≤ 448) (kx : ∀ (H : Heap) (locs : List Loc) (ls : Array Slot) (cells slots : Nat), cells ≤ 590000 → slots ≤ 7000000 → va_S AA ss.heap H locs → W pp l ee room_1 ss mm #[.ref sa] bb me cd H locs cells slots QQ (F0 mm 1262 ls [])) : ∀ (n tn : Nat), n + tn = 65 → ∀ (H : Heap) (locs : List Loc) (ls : Array Slot), LJ Γ AA ss.heap t m H locs → lv_has ls 4 [(0, .ref sa), (1, .ref (t 0)), (2, .ref (m 0)), (3, .int (nI (7 * tn)))] → W pp l ee room_1 ss mm #[.ref sa] bb me cd H locs (200 + 38 * tn) (5000 + 274 * tn) QQ (F0 mm 18 ls [])
  | 0, tn, e, H, locs, ls, hJ, hl => law_turn Γ l XX hLT hX hbl hbA hA hn (by omega) (by omega) (by omega) hJ hl (fun h => absurd h (by omega)) (fun ls => kx H locs ls _ _ (by omega) (by omega) (lj_S hJ))
  | n + 1, tn, e, H, locs, ls, hJ, hl => law_turn Γ l XX hLT hX hbl hbA hA hn (by omega) (by omega) (by omega) hJ hl (fun h H locs ls hJ hl => by
      have z := law_loop Γ l XX hLT hX hbl hbA hA hn kx n (tn + 1) (by omega) H locs ls hJ
      rw [show 7 * (tn + 1) = 7 * tn + 7 by omega, show 200 + 38 * (tn + 1) = 200 + 38 * tn + 38 by omega, show 5000 + 274 * (tn + 1) = 5000 + 274 * tn + 274 by omega] at z
      exact z hl) (fun ls => kx H locs ls _ _ (by omega) (by omega) (lj_S hJ))
