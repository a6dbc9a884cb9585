section KitA
abbrev BW : Type := List va_W
abbrev GG : Type := va_G × (Nat → ClassId)
abbrev tyl (cs : Nat → ClassId) : List (ClassId × FieldType) := [(cs 0, .int), (cs 1, .boolean), (cs 2, .object RX6), (cs 3, .object RX8), (cs 4, .object RX9), (cs 5, .object RX10)]
def gK (Γ : GG) (U : State) : Prop := va_K Γ.1 vwCl (tyl Γ.2) U ∧ (∀ w ∈ nestW, va_Nw w U) ∧ va_AO RX6 U ∧ va_AO RX8 U ∧ va_AO RX9 U ∧ va_AO RX10 U
theorem gK.blind {Γ : GG} {U : State} {g : JFrame} {mk : MethodId} {a : Array Value} (h : gK Γ U) : gK Γ (U.calling g mk a) :=
  have hv : U.vm.Alike (U.calling g mk a).vm := Vm.Alike.refl U.vm
  ⟨va_K.moved hv h.1, fun w hw => va_Nw.same (u := U) (U := U.calling g mk a) (nestW_tab w hw) rfl (h.2.1 w hw), h.2.2.1.moved hv, h.2.2.2.1.moved hv, h.2.2.2.2.1.moved hv, h.2.2.2.2.2.moved hv⟩
def nestForm (w : Cond) : Bool := match w with
  | .methodLinkNest .. => true
  | .castable .. => true
  | .declares .. => true
  | _ => false
theorem nestW_all : nestW.all nestForm = true := by decide +kernel
theorem gK.warm {Γ : GG} {s U : State} (hW : s.WarmedH U.vm) (h : gK Γ s) : gK Γ U := by
  have hv := hW.alike
  refine ⟨va_K.moved hv h.1, fun w hw => ?_, h.2.2.1.moved hv, h.2.2.2.1.moved hv, h.2.2.2.2.1.moved hv, h.2.2.2.2.2.moved hv⟩
  have hf := List.all_eq_true.mp nestW_all w hw
  have hz := h.2.1 w hw
  cases w <;> first | exact va_Nw.warmM hW hz | exact va_Nw.warmC hW hz | exact va_Nw.warmD hW hz | (simp [nestForm] at hf; done)
def bP (Γ : GG) (bs : BW) (H : Heap) : Prop := va_P Γ.1 vwCl bs.flatten H
def bD (A : Nat → Prop) (bs : BW) : Prop := va_D A bs.flatten
theorem bl_at : ∀ {bs : BW} {k j : Nat} {blk : va_W} {q : Nat × va_E}, bs[k]? = some blk → blk[j]? = some q → ∃ i, bs.flatten[i]? = some q ∧ ∀ e, bs.flatten.set i e = (bs.set k (blk.set j e)).flatten
  | [], k, j, blk, q, h, _ => by simp at h
  | b :: bs, 0, j, blk, q, h, h2 => by
    simp at h
    subst h
    have hj : j < b.length := (List.getElem?_eq_some_iff.mp h2).1
    refine ⟨j, ?_, fun e => ?_⟩
    · rw [List.flatten_cons, List.getElem?_append_left hj]; exact h2
    · rw [List.flatten_cons, List.set_append_left _ _ hj, List.set_cons_zero, List.flatten_cons]
  | b :: bs, k + 1, j, blk, q, h, h2 => by
    have h' : bs[k]? = some blk := by simpa using h
    obtain ⟨i, h3, h4⟩ := bl_at h' h2
    refine ⟨b.length + i, ?_, fun e => ?_⟩
    · rw [List.flatten_cons, List.getElem?_append_right (Nat.le_add_right _ _), Nat.add_sub_cancel_left]; exact h3
    · rw [List.flatten_cons, List.set_append_right _ _ (Nat.le_add_right _ _), Nat.add_sub_cancel_left, h4, List.set_cons_succ, List.flatten_cons]
theorem va_P_mem {D : va_G} {cl : List vw_C} {ws : va_W} {H : Heap} : va_P D cl ws H ↔ ∀ q ∈ ws, va_at D cl q H :=
  ⟨fun h q hq => by obtain ⟨k, hk⟩ := List.getElem?_of_mem hq; exact h k q hk, fun h k q hk => h q (List.mem_of_getElem? hk)⟩
theorem va_D_iff {A : Nat → Prop} {ws : va_W} : va_D A ws ↔ ws.Pairwise (fun p q => p.1 ≠ q.1) ∧ ∀ q ∈ ws, A q.1 := by
  constructor
  · intro h
    refine ⟨List.pairwise_iff_getElem.mpr fun i j hi hj hij e => ?_, fun q hq => ?_⟩
    · have := h.1 i j _ _ (List.getElem?_eq_getElem hi) (List.getElem?_eq_getElem hj) e
      omega
    · obtain ⟨k, hk⟩ := List.getElem?_of_mem hq
      exact h.2 k q hk
  · intro h
    have hp := List.pairwise_iff_getElem.mp h.1
    refine ⟨fun i j p q hi hj e => ?_, fun k q hk => h.2 q (List.mem_of_getElem? hk)⟩
    obtain ⟨hi1, hi2⟩ := List.getElem?_eq_some_iff.mp hi
    obtain ⟨hj1, hj2⟩ := List.getElem?_eq_some_iff.mp hj
    rcases Nat.lt_trichotomy i j with q1 | q1 | q1
    · exact absurd (by rw [hi2, hj2]; exact e) (hp i j hi1 hj1 q1)
    · exact q1
    · exact absurd (by rw [hi2, hj2]; exact e.symm) (hp j i hj1 hi1 q1)
theorem bl_pickP {Γ : GG} {bs bs' : BW} {H : Heap} (hP : bP Γ bs H) (is : List Nat) (h : is.map (fun i => bs[i]?) = bs'.map some) : bP Γ bs' H := by
  refine va_P_mem.mpr fun q hq => ?_
  obtain ⟨blk, hb, hq⟩ := List.mem_flatten.mp hq
  have h1 : some blk ∈ is.map (fun i => bs[i]?) := by rw [h]; exact List.mem_map.mpr ⟨_, hb, rfl⟩
  obtain ⟨i, -, hi⟩ := List.mem_map.mp h1
  exact va_P_mem.mp hP q (List.mem_flatten.mpr ⟨blk, List.mem_of_getElem? hi, hq⟩)
theorem bl_pickD {A : Nat → Prop} {bs bs' : BW} (hD : bD A bs) (is : List Nat) (hn : va_nd is = true) (h : is.map (fun i => bs[i]?) = bs'.map some) : bD A bs' := by
  have hD := va_D_iff.mp hD
  have hp := List.pairwise_flatten.mp hD.1
  have hp2 := List.pairwise_iff_getElem.mp hp.2
  have key : ∀ (k : Nat) (blk : va_W), bs'[k]? = some blk → ∃ i, is[k]? = some i ∧ bs[i]? = some blk := by
    intro k blk hk
    have h1 : (is.map (fun i => bs[i]?))[k]? = some (some blk) := by rw [h, List.getElem?_map, hk]; rfl
    rw [List.getElem?_map] at h1
    cases hi : is[k]? with
    | none => rw [hi] at h1; cases h1
    | some i => rw [hi] at h1; exact ⟨i, rfl, by simpa using h1⟩
  have hmem : ∀ blk ∈ bs', blk ∈ bs := fun blk hb => by
    obtain ⟨k, hk⟩ := List.getElem?_of_mem hb
    obtain ⟨i, -, hi⟩ := key k blk hk
    exact List.mem_of_getElem? hi
  refine va_D_iff.mpr ⟨List.pairwise_flatten.mpr ⟨fun b hb => hp.1 b (hmem b hb), List.pairwise_iff_getElem.mpr fun i j hi hj hij => ?_⟩, fun q hq => ?_⟩
  · obtain ⟨a, ha, ha2⟩ := key i _ (List.getElem?_eq_getElem hi)
    obtain ⟨b, hb, hb2⟩ := key j _ (List.getElem?_eq_getElem hj)
    have hne : a ≠ b := fun e => by
      have := va_nd_inj _ hn i j a (by rw [ha]) (by rw [hb, e])
      omega
    obtain ⟨ha3, ha4⟩ := List.getElem?_eq_some_iff.mp ha2
    obtain ⟨hb3, hb4⟩ := List.getElem?_eq_some_iff.mp hb2
    rw [← ha4, ← hb4]
    rcases Nat.lt_or_gt_of_ne hne with q1 | q1
    · exact hp2 a b ha3 hb3 q1
    · exact fun x hx y hy e => hp2 b a hb3 ha3 q1 y hy x hx e.symm
  · obtain ⟨blk, hb, hq⟩ := List.mem_flatten.mp hq
    exact hD.2 q (List.mem_flatten.mpr ⟨blk, hmem blk hb, hq⟩)
theorem bl_join {Γ : GG} {A : Nat → Prop} {wc wr w1 : BW} {H H1 : Heap} (hP : bP Γ (wc ++ wr) H) (hD : bD A (wc ++ wr)) (hk : ∀ q : Nat, q < H.size → ¬ va_A wc.flatten H.size q → H1[q]? = H[q]?) (hF : ∀ q, va_A wc.flatten H.size q → A q) (hP1 : bP Γ w1 H1) (hD1 : va_D (va_A wc.flatten H.size) w1.flatten) : bP Γ (w1 ++ wr) H1 ∧ bD A (w1 ++ wr) := by
  unfold bP bD at *
  rw [List.flatten_append] at *
  have hD := va_D_iff.mp hD
  have hD1 := va_D_iff.mp hD1
  have hp := List.pairwise_append.mp hD.1
  have hout : ∀ q ∈ wr.flatten, q.1 < H.size ∧ ¬ va_A wc.flatten H.size q.1 := fun q hq => by
    have hlt : q.1 < H.size := (va_P_mem.mp hP q (List.mem_append_right _ hq)).lt
    refine ⟨hlt, fun h => ?_⟩
    rcases h with ⟨k, e, h⟩ | h
    · exact hp.2.2 _ (List.mem_of_getElem? h) q hq rfl
    · omega
  refine ⟨va_P_mem.mpr fun q hq => ?_, va_D_iff.mpr ⟨List.pairwise_append.mpr ⟨hD1.1, hp.2.1, fun x hx y hy e => ?_⟩, fun q hq => ?_⟩⟩
  · rcases List.mem_append.mp hq with h | h
    · exact va_P_mem.mp hP1 q h
    · have := hout q h
      exact (va_P_mem.mp hP q (List.mem_append_right _ h)).kept (hk _ this.1 this.2)
  · have h1 := hD1.2 x hx
    have h2 := hout y hy
    rw [e] at h1
    exact h2.2 h1
  · rcases List.mem_append.mp hq with h | h
    · exact hF _ (hD1.2 q h)
    · exact hD.2 q (List.mem_append_right _ h)
theorem bl_free {A : Nat → Prop} {wc wr : BW} {H0 H : Heap} {locs : List Loc} (hD : bD A (wc ++ wr)) (hS : va_S A H0 H locs) (hA : ∀ q, H0.size ≤ q → A q) : ∀ q, va_A wc.flatten H.size q → A q := by
  intro q h
  rcases h with ⟨k, e, h⟩ | h
  · unfold bD at hD
    rw [List.flatten_append] at hD
    exact (va_D_iff.mp hD).2 (q, e) (List.mem_append_left _ (List.mem_of_getElem? h))
  · exact hA q (Nat.le_trans hS.1 h)
theorem bD.weak {A : Nat → Prop} {bs : BW} (h : bD A bs) : bD (fun _ => True) bs := va_D.weaken h (fun _ _ _ _ => trivial)
theorem bP.left {Γ : GG} {wc wr : BW} {H : Heap} (h : bP Γ (wc ++ wr) H) : bP Γ wc H := by
  unfold bP at *
  rw [List.flatten_append] at h
  exact va_P_mem.mpr fun q hq => va_P_mem.mp h q (List.mem_append_left _ hq)
theorem bD.left {A : Nat → Prop} {wc wr : BW} (h : bD A (wc ++ wr)) : bD A wc := by
  unfold bD at *
  rw [List.flatten_append] at h
  have h := va_D_iff.mp h
  exact va_D_iff.mpr ⟨(List.pairwise_append.mp h.1).1, fun q hq => h.2 q (List.mem_append_left _ hq)⟩
end KitA
