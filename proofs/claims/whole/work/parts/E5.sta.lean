
theorem st_arr {s : State} {a : Array Value} {ty : FieldType} (h : (Cond.arrayClass ty).before a s = true) : ∃ cA : ClassId, ArrOfT s cA ty ∧ s.vm.findClass ("[" ++ ty.toString) = some cA := by
  obtain ⟨c, k, comp, h1, h2, h3⟩ := Cond.arrayClass_spec h
  exact ⟨c, fun n z => ⟨fun k h => (by cases h), k, h2, comp, h3⟩, h1⟩
theorem st_arq {s : State} {a : Array Value} {C : String} (h : (Cond.arrayOver (.object C)).before a s = true) : ∃ cA : ClassId, ArrOfT s cA (.object C) ∧ va_RA s cA (.object C) := by
  obtain ⟨comp, c, k, h1, -, h3, h4, h5⟩ := Cond.arrayOver_spec h
  exact ⟨c, fun N z => ⟨(fun k h => by cases h), k, h3, comp, h4⟩, k, comp, h3, h4, h1, h5⟩
theorem nest_in : ∀ w ∈ nestW, w ∈ lw_tbl := fun w h => List.mem_append_right _ (of_decide_eq_true (List.all_eq_true.mp (show (nestW.all fun w => decide (w ∈ tables_1)) = true by decide +kernel) w h))
def stW : List Cond := [.arrayOver (.object RX6), .arrayOver (.object RX8), .arrayOver (.object RX9), .arrayOver (.object RX10), .laysStatic "java/lang/String" "COMPACT_STRINGS" "Z", .initialized "java/lang/String", .laysStatic "TideTreaty$Script" "NUMBERS_BEHIND" "[I", .initialized "TideTreaty$Script", .laysStatic "jdk/internal/util/Preconditions" "SIOOBE_FORMATTER" "Ljava/util/function/BiFunction;", .initialized "jdk/internal/util/Preconditions"]
theorem stW_in : ∀ w ∈ stW, w ∈ lw_tbl := fun w h => List.mem_append_right _ (of_decide_eq_true (List.all_eq_true.mp (show (stW.all fun w => decide (w ∈ tables_1)) = true by decide +kernel) w h))
theorem stR_in : ∀ i, i < 6 → (Cond.stringRef RX7 (ixA i) (txA i)) ∈ tables_1 := by decide +kernel
theorem amb_ex {s : State} {a : Array Value} (ht : ∀ w ∈ lw_tbl, w.before a s = true) : ∃ Γ : GG, gK Γ s := by
  have hts : ∀ w ∈ ALLW, w.before a s = true := fun w hw => ht w (all_tbl hw)
  have hw : ∀ i, (h : i < 10) → (stW[i]).before a s = true := fun i h => ht _ (stW_in _ (List.getElem_mem h))
  obtain ⟨c0, i0, k0⟩ := u_known (C := RX0) (T := TX0) (N := 0) (n := 0) hts iwX0 (hts _ it_X0)
  obtain ⟨c1, i1, k1⟩ := u_known (C := RX1) (T := TX1) (N := 0) (n := 0) hts iwX1 (hts _ it_X1)
  obtain ⟨c2, i2, k2⟩ := u_known (C := RX2) (T := TX2) (N := 13) (n := 13) hts iwX2 (hts _ it_X2)
  obtain ⟨c3, i3, k3⟩ := u_known (C := RX3) (T := TX3) (N := 0) (n := 0) hts iwX3 (hts _ it_X3)
  obtain ⟨c4, i4, k4⟩ := u_known (C := RX4) (T := TX4) (N := 0) (n := 0) hts iwX4 (hts _ it_X4)
  obtain ⟨c5, i5, k5⟩ := u_known (C := RX5) (T := TX5) (N := 0) (n := 0) hts iwX5 (hts _ it_X5)
  obtain ⟨c6, i6, k6⟩ := u_known (C := RX6) (T := TX6) (N := 0) (n := 0) hts iwX6 (hts _ it_X6)
  obtain ⟨c7, i7, k7⟩ := u_known (C := RX7) (T := TX7) (N := 7) (n := 7) hts iwX7 (hts _ it_X7)
  obtain ⟨c8, i8, k8⟩ := u_known (C := RX8) (T := TX8) (N := 4) (n := 4) hts iwX8 (hts _ it_X8)
  obtain ⟨c9, i9, k9⟩ := u_known (C := RX9) (T := TX9) (N := 8) (n := 8) hts iwX9 (hts _ it_X9)
  obtain ⟨c10, i10, k10⟩ := u_known (C := RX10) (T := TX10) (N := 5) (n := 5) hts iwX10 (hts _ it_X10)
  obtain ⟨c11, i11, k11⟩ := u_known (C := RX11) (T := TX11) (N := 8) (n := 8) hts iwX11 (hts _ it_X11)
  obtain ⟨c12, i12, k12⟩ := u_known (C := RX12) (T := TX12) (N := 17) (n := 17) hts iwX12 (hts _ it_X12)
  obtain ⟨a0, a0t, a0n⟩ := st_arr (hts _ ac_int)
  obtain ⟨a1, a1t, a1n⟩ := st_arr (hts _ ac_boolean)
  obtain ⟨a2, a2t, a2n⟩ := st_arq (C := RX6) (hw 0 (by decide))
  obtain ⟨a3, a3t, a3n⟩ := st_arq (C := RX8) (hw 1 (by decide))
  obtain ⟨a4, a4t, a4n⟩ := st_arq (C := RX9) (hw 2 (by decide))
  obtain ⟨a5, a5t, a5n⟩ := st_arq (C := RX10) (hw 3 (by decide))
  refine ⟨((fun k => [c0, c1, c2, c3, c4, c5, c6, c7, c8, c9, c10, c11, c12].getD k c0, fun k => [i0, i1, i2, i3, i4, i5, i6, i7, i8, i9, i10, i11, i12].getD k i0), fun k => [a0, a1, a2, a3, a4, a5].getD k a0), ⟨?_, ?_⟩, fun w hw9 => va_Nw.of (nestW_tab w hw9) (ht w (nest_in w hw9)), va_AO.of (hw 0 (by decide)), va_AO.of (hw 1 (by decide)), va_AO.of (hw 2 (by decide)), va_AO.of (hw 3 (by decide))⟩
  · intro c q hq
    match c, hq with
    | 0, hq => cases hq; exact k0
    | 1, hq => cases hq; exact k1
    | 2, hq => cases hq; exact k2
    | 3, hq => cases hq; exact k3
    | 4, hq => cases hq; exact k4
    | 5, hq => cases hq; exact k5
    | 6, hq => cases hq; exact k6
    | 7, hq => cases hq; exact k7
    | 8, hq => cases hq; exact k8
    | 9, hq => cases hq; exact k9
    | 10, hq => cases hq; exact k10
    | 11, hq => cases hq; exact k11
    | 12, hq => cases hq; exact k12
    | n + 13, hq => exact absurd hq (by simp [vwCl])
  · intro k q hq
    match k, hq with
    | 0, hq => cases hq; exact ⟨a0t, a0n⟩
    | 1, hq => cases hq; exact ⟨a1t, a1n⟩
    | 2, hq => cases hq; exact ⟨a2t, a2n⟩
    | 3, hq => cases hq; exact ⟨a3t, a3n⟩
    | 4, hq => cases hq; exact ⟨a4t, a4n⟩
    | 5, hq => cases hq; exact ⟨a5t, a5n⟩
    | n + 6, hq => exact absurd hq (by simp [tyl])
abbrev GV : List Cond := flatC (Jvm.Cond.and given_1 narrow_1)
def tmS (i : Nat) : Term := .string RX7 (ixA i)
theorem gv_ex : ∀ i, i < 6 → Cond.exactly (tmS i) "java/lang/String" ∈ GV := by decide +kernel
theorem gv_co : ∀ i, i < 6 → Cond.eq (.field (tmS i) "java/lang/String" "coder" "B") (.int 0) ∈ GV := by decide +kernel
theorem gv_ar : ∀ i, i < 6 → Cond.arrayOf (.field (tmS i) "java/lang/String" "value" "[B") .byte ∈ GV := by decide +kernel
theorem gv_le : ∀ i, i < 6 → Cond.eq (.length (.field (tmS i) "java/lang/String" "value" "[B")) (.int (Int32.ofNat (lenA.getD i 0))) ∈ GV := by decide +kernel
theorem gv_el : ∀ i, i < 6 → ∀ j, j < lenA.getD i 0 → Cond.eq (.elem (.field (tmS i) "java/lang/String" "value" "[B") (.int (Int32.ofNat j))) (.int ((bytA.getD i []).getD j 0)) ∈ GV := by decide +kernel
theorem gv_ne : ∀ i, i < 6 → ∀ j, j < 6 → i ≠ j → (Cond.not (Cond.eq (tmS i) (tmS j)) ∈ GV ∨ Cond.not (Cond.eq (tmS j) (tmS i)) ∈ GV) := by decide +kernel
theorem gv_nb : ∀ j, j < 6 → Cond.eq (.elem (.static "TideTreaty$Script" "NUMBERS_BEHIND" "[I") (.int (Int32.ofNat j))) (.int (nI (nbN j))) ∈ GV := by decide +kernel
theorem gv_nl : Cond.eq (.length (.static "TideTreaty$Script" "NUMBERS_BEHIND" "[I")) (.int (Int32.ofNat 6)) ∈ GV := by decide +kernel
theorem gv_na : Cond.arrayOf (.static "TideTreaty$Script" "NUMBERS_BEHIND" "[I") .int ∈ GV := by decide +kernel
theorem gv_cs : Cond.eq (.static "java/lang/String" "COMPACT_STRINGS" "Z") (.int 1) ∈ GV := by decide +kernel
theorem gv_sf : Cond.isRef (.static "jdk/internal/util/Preconditions" "SIOOBE_FORMATTER" "Ljava/util/function/BiFunction;") ∈ GV := by decide +kernel
theorem lt_ex {s : State} {a : Array Value} (ht : ∀ w ∈ lw_tbl, w.before a s = true) (hgv : (Jvm.Cond.and given_1 narrow_1).before a s = true) : ∃ K : AK, LT K (fun q : Nat => s.heap.size ≤ q) s s.heap := by
  have hs : ∀ c ∈ GV, c.before a s = true := flat_of_before _ hgv
  have hw : ∀ i, (h : i < 10) → (stW[i]).before a s = true := fun i h => ht _ (stW_in _ (List.getElem_mem h))
  have hA : ∀ q : Nat, q < s.heap.size → ¬ (fun q : Nat => s.heap.size ≤ q) q := fun q h => Nat.not_le.mpr h
  obtain ⟨adK, adV, h1, h2⟩ := vk_Sof (N := 6) (tm := tmS) (len := lenA) (byt := bytA) (A := fun q : Nat => s.heap.size ≤ q) (by decide) (fun i hi => hs _ (gv_ex i hi)) (fun i hi => hs _ (gv_co i hi)) (fun i hi => hs _ (gv_ar i hi)) (fun i hi => hs _ (gv_le i hi)) (fun i hi j hj => hs _ (gv_el i hi j hj)) (fun i j hi hj hne => (gv_ne i hi j hj hne).imp (hs _) (hs _)) hA
  obtain ⟨t, h3, h4⟩ := va_Tof (tm := .static "TideTreaty$Script" "NUMBERS_BEHIND" "[I") (ty := .int) (N := 6) (f := fun j => .int (nI (nbN j))) (A := fun q : Nat => s.heap.size ≤ q) (by decide) (hs _ gv_na) (va_eqt (hs _ gv_nl)) (fun j hj => va_eqt (hs _ (gv_nb j hj))) hA
  exact ⟨(adK, adV, t), h1, fun i hi => vk_R.of (ht _ (List.mem_append_right _ (stR_in i hi))) (h2 i hi), va_Zof (hw 4 (by decide)) (hw 5 (by decide)) (va_eqt (hs _ gv_cs)) hA, ⟨va_Zof (hw 6 (by decide)) (hw 7 (by decide)) h3 hA, h4⟩, va_Zqof (hw 8 (by decide)) (hw 9 (by decide)) (hs _ gv_sf) hA⟩
