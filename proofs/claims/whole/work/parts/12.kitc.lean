section KitS
def setAll (bs : BW) : List Nat → BW → BW
  | k :: ks, b :: w => setAll (bs.set k b) ks w
  | _, _ => bs
theorem setAll_out : ∀ (ks : List Nat) (w bs : BW) (i : Nat), i ∉ ks → (setAll bs ks w)[i]? = bs[i]?
  | [], w, bs, i, _ => by cases w <;> rfl
  | k :: ks, [], bs, i, _ => rfl
  | k :: ks, b :: w, bs, i, h => by
    rw [setAll, setAll_out ks w _ i (fun q => h (List.mem_cons_of_mem _ q)), List.getElem?_set_ne (fun q => h (by rw [q]; exact List.mem_cons_self))]
theorem setAll_in : ∀ (ks : List Nat) (w bs : BW), ks.Nodup → w.length = ks.length → (∀ k ∈ ks, k < bs.length) → ∀ (j k : Nat), ks[j]? = some k → (setAll bs ks w)[k]? = w[j]?
  | [], w, bs, _, _, _, j, k, h => by simp at h
  | k0 :: ks, [], bs, _, hl, _, _, _, _ => by simp at hl
  | k0 :: ks, b :: w, bs, hn, hl, hb, 0, k, h => by
    simp at h
    subst h
    rw [setAll, setAll_out ks w _ _ (List.nodup_cons.mp hn).1, List.getElem?_set_self (hb _ List.mem_cons_self)]
    rfl
  | k0 :: ks, b :: w, bs, hn, hl, hb, j + 1, k, h => by
    rw [setAll, setAll_in ks w _ (List.nodup_cons.mp hn).2 (by simpa using hl) (fun k hk => by rw [List.length_set]; exact hb k (List.mem_cons_of_mem _ hk)) j k (by simpa using h)]
    rfl
theorem setAll_len : ∀ (ks : List Nat) (w bs : BW), (setAll bs ks w).length = bs.length
  | [], w, bs => by cases w <;> rfl
  | k :: ks, [], bs => rfl
  | k :: ks, b :: w, bs => by rw [setAll, setAll_len, List.length_set]
theorem pick_at {bs wc : BW} {ks : List Nat} (hC : ks.map (fun i => bs[i]?) = wc.map some) : ∀ (j : Nat) (blk : va_W), wc[j]? = some blk → ∃ k, ks[j]? = some k ∧ bs[k]? = some blk := by
  intro j blk hk
  have h1 : (ks.map (fun i => bs[i]?))[j]? = some (some blk) := by rw [hC, List.getElem?_map, hk]; rfl
  rw [List.getElem?_map] at h1
  cases hi : ks[j]? with
  | none => rw [hi] at h1; cases h1
  | some i => rw [hi] at h1; exact ⟨i, rfl, by simpa using h1⟩
theorem bl_back {Γ : GG} {A : Nat → Prop} {bs wc w1 : BW} {H H1 : Heap} (hP : bP Γ bs H) (hD : bD A bs) (ks : List Nat) (hn : ks.Nodup) (hC : ks.map (fun i => bs[i]?) = wc.map some) (hk : ∀ q : Nat, q < H.size → ¬ va_A wc.flatten H.size q → H1[q]? = H[q]?) (hF : ∀ q, va_A wc.flatten H.size q → A q) (hl : w1.length = ks.length) (hP1 : bP Γ w1 H1) (hD1 : va_D (va_A wc.flatten H.size) w1.flatten) : bP Γ (setAll bs ks w1) H1 ∧ bD A (setAll bs ks w1) := by
  have hDD := va_D_iff.mp hD
  have hp := List.pairwise_flatten.mp hDD.1
  have hp2 := List.pairwise_iff_getElem.mp hp.2
  have hE := va_D_iff.mp hD1
  have ep := List.pairwise_flatten.mp hE.1
  have ep2 := List.pairwise_iff_getElem.mp ep.2
  have hlc : ks.length = wc.length := by have := congrArg List.length hC; simpa using this
  have apart : ∀ (i j : Nat) (x y : va_W), bs[i]? = some x → bs[j]? = some y → i ≠ j → ∀ a ∈ x, ∀ b ∈ y, a.1 ≠ b.1 := by
    intro i j x y hi hj hne
    obtain ⟨hi1, hi2⟩ := List.getElem?_eq_some_iff.mp hi
    obtain ⟨hj1, hj2⟩ := List.getElem?_eq_some_iff.mp hj
    rcases Nat.lt_or_gt_of_ne hne with q | q
    · intro a ha b hb; exact hp2 i j hi1 hj1 q a (by rw [hi2]; exact ha) b (by rw [hj2]; exact hb)
    · intro a ha b hb e; exact hp2 j i hj1 hi1 q b (by rw [hj2]; exact hb) a (by rw [hi2]; exact ha) e.symm
  have inb : ∀ k ∈ ks, k < bs.length := by
    intro k hk
    obtain ⟨j, hj⟩ := List.getElem?_of_mem hk
    have hjl : j < ks.length := (List.getElem?_eq_some_iff.mp hj).1
    have h1 : (ks.map (fun i => bs[i]?))[j]? = some (bs[k]?) := by rw [List.getElem?_map, hj]; rfl
    rw [hC, List.getElem?_map, List.getElem?_eq_getElem (by omega)] at h1
    simp only [Option.map_some] at h1
    have h2 := Option.some.inj h1
    exact (List.getElem?_eq_some_iff.mp h2.symm).1
  have outside : ∀ (i : Nat) (x : va_W), i ∉ ks → bs[i]? = some x → ∀ q ∈ x, q.1 < H.size ∧ ¬ va_A wc.flatten H.size q.1 := by
    intro i x hi hx q hq
    have hlt : q.1 < H.size := (va_P_mem.mp hP q (List.mem_flatten.mpr ⟨x, List.mem_of_getElem? hx, hq⟩)).lt
    refine ⟨hlt, fun h => ?_⟩
    rcases h with ⟨k, e, h⟩ | h
    · obtain ⟨blk, hb, hm⟩ := List.mem_flatten.mp (List.mem_of_getElem? h)
      obtain ⟨j, hj⟩ := List.getElem?_of_mem hb
      obtain ⟨k2, hk2, hb2⟩ := pick_at hC j blk hj
      exact apart k2 i blk x hb2 hx (fun e => hi (by rw [← e]; exact List.mem_of_getElem? hk2)) _ hm q hq rfl
    · omega
  have cases' : ∀ (i : Nat) (x : va_W), (setAll bs ks w1)[i]? = some x → (i ∉ ks ∧ bs[i]? = some x) ∨ ∃ j : Nat, ks[j]? = some i ∧ w1[j]? = some x := by
    intro i x hx
    by_cases hi : i ∈ ks
    · obtain ⟨j, hj⟩ := List.getElem?_of_mem hi
      rw [setAll_in ks w1 bs hn hl inb j i hj] at hx
      exact Or.inr ⟨j, hj, hx⟩
    · rw [setAll_out ks w1 bs i hi] at hx
      exact Or.inl ⟨hi, hx⟩
  have mem1 : ∀ (j : Nat) (x : va_W), w1[j]? = some x → ∀ q ∈ x, q ∈ w1.flatten := fun j x hx q hq => List.mem_flatten.mpr ⟨x, List.mem_of_getElem? hx, hq⟩
  refine ⟨va_P_mem.mpr fun q hq => ?_, va_D_iff.mpr ⟨List.pairwise_flatten.mpr ⟨fun x hx => ?_, List.pairwise_iff_getElem.mpr fun i j hi hj hij => ?_⟩, fun q hq => ?_⟩⟩
  · obtain ⟨x, hx, hq⟩ := List.mem_flatten.mp hq
    obtain ⟨i, hi⟩ := List.getElem?_of_mem hx
    rcases cases' i x hi with ⟨h1, h2⟩ | ⟨j, h1, h2⟩
    · have h3 := outside i x h1 h2 q hq
      exact (va_P_mem.mp hP q (List.mem_flatten.mpr ⟨x, List.mem_of_getElem? h2, hq⟩)).kept (hk _ h3.1 h3.2)
    · exact va_P_mem.mp hP1 q (mem1 j x h2 q hq)
  · obtain ⟨i, hi⟩ := List.getElem?_of_mem hx
    rcases cases' i x hi with ⟨h1, h2⟩ | ⟨j, h1, h2⟩
    · exact hp.1 x (List.mem_of_getElem? h2)
    · exact ep.1 x (List.mem_of_getElem? h2)
  · rcases cases' i _ (List.getElem?_eq_getElem hi) with ⟨h1, h2⟩ | ⟨a, h1, h2⟩ <;> rcases cases' j _ (List.getElem?_eq_getElem hj) with ⟨h3, h4⟩ | ⟨b, h3, h4⟩
    · exact apart i j _ _ h2 h4 (by omega)
    · intro x hx y hy e
      have hA := hE.2 y (mem1 b _ h4 y hy)
      rw [← e] at hA
      exact (outside i _ h1 h2 x hx).2 hA
    · intro x hx y hy e
      have hA := hE.2 x (mem1 a _ h2 x hx)
      rw [e] at hA
      exact (outside j _ h3 h4 y hy).2 hA
    · have hab : a ≠ b := fun e => by rw [e, h3] at h1; have := Option.some.inj h1; omega
      obtain ⟨ha1, ha2⟩ := List.getElem?_eq_some_iff.mp h2
      obtain ⟨hb1, hb2⟩ := List.getElem?_eq_some_iff.mp h4
      rw [← ha2, ← hb2]
      rcases Nat.lt_or_gt_of_ne hab with q | q
      · exact ep2 a b ha1 hb1 q
      · exact fun x hx y hy e => ep2 b a hb1 ha1 q y hy x hx e.symm
  · obtain ⟨x, hx, hq⟩ := List.mem_flatten.mp hq
    obtain ⟨i, hi⟩ := List.getElem?_of_mem hx
    rcases cases' i x hi with ⟨h1, h2⟩ | ⟨j, h1, h2⟩
    · exact hDD.2 q (List.mem_flatten.mpr ⟨x, List.mem_of_getElem? h2, hq⟩)
    · exact hF _ (hE.2 q (mem1 j x h2 q hq))
theorem pick_mem {bs wc : BW} {ks : List Nat} (hC : ks.map (fun i => bs[i]?) = wc.map some) : ∀ q ∈ wc.flatten, q ∈ bs.flatten := by
  intro q hq
  obtain ⟨x, hx, hq⟩ := List.mem_flatten.mp hq
  obtain ⟨j, hj⟩ := List.getElem?_of_mem hx
  obtain ⟨k, -, hk⟩ := pick_at hC j x hj
  exact List.mem_flatten.mpr ⟨x, List.mem_of_getElem? hk, hq⟩
theorem bl_freeQ {A : Nat → Prop} {wc bs : BW} {H0 H : Heap} {locs : List Loc} (hD : bD A bs) (hm : ∀ q ∈ wc.flatten, q ∈ bs.flatten) (hS : va_S A H0 H locs) (hA : ∀ q, H0.size ≤ q → A q) : ∀ q, va_A wc.flatten H.size q → A q := by
  intro q h
  rcases h with ⟨k, e, h⟩ | h
  · exact (va_D_iff.mp hD).2 (q, e) (hm _ (List.mem_of_getElem? h))
  · exact hA q (Nat.le_trans hS.1 h)
theorem bP.memQ {Γ : GG} {wc bs : BW} {H : Heap} (h : bP Γ bs H) (hm : ∀ q ∈ wc.flatten, q ∈ bs.flatten) : bP Γ wc H := va_P_mem.mpr fun q hq => va_P_mem.mp h q (hm q hq)
/-- a call that leaves its cells as they were leaves the world as it was -/
theorem bl_same {Γ : GG} {bs wc : BW} {H H1 : Heap} (hP : bP Γ bs H) (hk : ∀ q : Nat, q < H.size → ¬ va_A wc.flatten H.size q → H1[q]? = H[q]?) (hP1 : bP Γ wc H1) (hu : ∀ q ∈ bs.flatten, ∀ q2 ∈ wc.flatten, q.1 = q2.1 → q = q2) : bP Γ bs H1 := by
  refine va_P_mem.mpr fun q hq => ?_
  by_cases h : ∃ q2 ∈ wc.flatten, q.1 = q2.1
  · obtain ⟨q2, h2, e⟩ := h
    rw [hu q hq q2 h2 e]
    exact va_P_mem.mp hP1 q2 h2
  · have hlt : q.1 < H.size := (va_P_mem.mp hP q hq).lt
    refine (va_P_mem.mp hP q hq).kept (hk _ hlt fun hA => ?_)
    rcases hA with ⟨k, e, hA⟩ | hA
    · exact h ⟨_, List.mem_of_getElem? hA, rfl⟩
    · omega
theorem bD.uniq {A : Nat → Prop} {bs wc : BW} (hD : bD A bs) (hm : ∀ q ∈ wc.flatten, q ∈ bs.flatten) : ∀ q ∈ bs.flatten, ∀ q2 ∈ wc.flatten, q.1 = q2.1 → q = q2 := by
  intro q hq q2 hq2 e
  obtain ⟨i, hi⟩ := List.getElem?_of_mem hq
  obtain ⟨j, hj⟩ := List.getElem?_of_mem (hm q2 hq2)
  have := hD.1 i j q q2 hi hj e
  subst this
  rw [hi] at hj
  exact Option.some.inj hj
end KitS
section KitD
/-- the words of a call to a method of class C's own (invokevirtual, by its own name) -/
def CWV (own : String) (index : Nat) (C : String) (y : MethodName) (b : ByteArray) (maxL : Nat) (rt : Option FieldType) (n : Nat) : Prop :=
  Cond.code y b maxL rt ∈ ALLW ∧ Cond.instanceMethod y ∈ ALLW ∧ Cond.selects C y y ∈ ALLW ∧ Cond.initialized y.cls ∈ ALLW ∧ Cond.methodLink own index y ∈ ALLW ∧ (y.cls ≠ "java/lang/invoke/MethodHandle" ∧ y.cls ≠ "java/lang/invoke/VarHandle" ∧ (parseMethodDescriptor y.desc).map (fun d => d.parameters.length) = some n)
def CWS (own : String) (index : Nat) (y : MethodName) (b : ByteArray) (maxL : Nat) (rt : Option FieldType) (n : Nat) : Prop :=
  Cond.code y b maxL rt ∈ ALLW ∧ Cond.static y ∈ ALLW ∧ Cond.initialized y.cls ∈ ALLW ∧ Cond.methodLink own index y ∈ ALLW ∧ (y.cls ≠ "java/lang/invoke/MethodHandle" ∧ y.cls ≠ "java/lang/invoke/VarHandle" ∧ (parseMethodDescriptor y.desc).map (fun d => d.parameters.length) = some n)
def CWI (own : String) (index : Nat) (y : MethodName) (b : ByteArray) (maxL : Nat) (n : Nat) : Prop :=
  Cond.code y b maxL none ∈ ALLW ∧ Cond.instanceMethod y ∈ ALLW ∧ Cond.initialized y.cls ∈ ALLW ∧ Cond.methodLink own index y ∈ ALLW ∧ y.name = "<init>" ∧ (y.cls ≠ "java/lang/invoke/MethodHandle" ∧ y.cls ≠ "java/lang/invoke/VarHandle" ∧ (parseMethodDescriptor y.desc).map (fun d => d.parameters.length) = some n)
def CWSN (own : String) (index : Nat) (y : MethodName) (host : String) (b : ByteArray) (maxL : Nat) (rt : Option FieldType) (n : Nat) : Prop :=
  Cond.code y b maxL rt ∈ ALLW ∧ Cond.static y ∈ ALLW ∧ Cond.initialized y.cls ∈ ALLW ∧ Cond.methodLinkNest own index y host ∈ nestW ∧ (y.cls ≠ "java/lang/invoke/MethodHandle" ∧ y.cls ≠ "java/lang/invoke/VarHandle" ∧ (parseMethodDescriptor y.desc).map (fun d => d.parameters.length) = some n)
def CWIN (own : String) (index : Nat) (y : MethodName) (host : String) (b : ByteArray) (maxL : Nat) (n : Nat) : Prop :=
  Cond.code y b maxL none ∈ ALLW ∧ Cond.instanceMethod y ∈ ALLW ∧ Cond.initialized y.cls ∈ ALLW ∧ Cond.methodLinkNest own index y host ∈ nestW ∧ y.name = "<init>" ∧ (y.cls ≠ "java/lang/invoke/MethodHandle" ∧ y.cls ≠ "java/lang/invoke/VarHandle" ∧ (parseMethodDescriptor y.desc).map (fun d => d.parameters.length) = some n)
/-- a virtual call by the name x of class 'owner', which in C selects y -/
def CWO (own : String) (index : Nat) (C owner : String) (x y : MethodName) (b : ByteArray) (maxL : Nat) (rt : Option FieldType) (n : Nat) : Prop :=
  Cond.code y b maxL rt ∈ ALLW ∧ Cond.methodLink own index x ∈ ALLW ∧ Cond.sameMethod x.cls owner x.name x.desc ∈ ALLW ∧ Cond.instanceMethod ⟨owner, x.name, x.desc⟩ ∈ ALLW ∧ Cond.selects C x y ∈ ALLW ∧ Cond.instanceMethod y ∈ ALLW ∧ Cond.initialized y.cls ∈ ALLW ∧ (∃ b0 m0 r0, Cond.code ⟨owner, x.name, x.desc⟩ b0 m0 r0 ∈ ALLW) ∧ (owner ≠ "java/lang/invoke/MethodHandle" ∧ owner ≠ "java/lang/invoke/VarHandle" ∧ (parseMethodDescriptor x.desc).map (fun d => d.parameters.length) = some n)
/-- super.y(..) -/
def CWSU (own : String) (index : Nat) (y : MethodName) (b : ByteArray) (maxL : Nat) (rt : Option FieldType) (n : Nat) : Prop :=
  Cond.code y b maxL rt ∈ ALLW ∧ Cond.methodLink own index y ∈ ALLW ∧ Cond.sameMethod y.cls y.cls y.name y.desc ∈ ALLW ∧ Cond.superclass own y.cls ∈ ALLW ∧ Cond.instanceMethod y ∈ ALLW ∧ Cond.initialized y.cls ∈ ALLW ∧ (y.name ≠ "<init>" ∧ (parseMethodDescriptor y.desc).map (fun d => d.parameters.length) = some n)
theorem good_one {w : Cond} (h : w ∈ ALLW) : w ∈ ALLW ∧ ((w.onTables && w.keeps) = true ∨ ∃ ty, w = .arrayClass ty) := ⟨h, good_of_word (all_good h)⟩
theorem good_code {y : MethodName} {b : ByteArray} {maxL : Nat} {rt : Option FieldType} (h : Cond.code y b maxL rt ∈ ALLW) : GoodIn ALLW (Cond.code y b maxL rt :: ALLW) := fun w hw => by
  rcases List.mem_cons.mp hw with rfl | hw
  · exact good_one h
  · exact good_one hw
variable {p : Program} {l : Launch} {e : Env} {R : Room} {s : State} {m : MethodId} {args : Array Value} {below : List Frame} {meth : Method} {c : Code} {H : Heap} {locs : List Loc} {cells slots : Nat} {Q : State → Prop}
  {cc : ByteArray} {nL pc : Nat} {own : String} {Γ : GG} {ls : Array Slot} {rest : List Value} {A : Nat → Prop}
  {y : MethodName} {b : ByteArray} {maxL index fr lo mc ms n : Nat} {rt : Option FieldType} {As : List Value} {wc wr bs : BW} {S : Type} {C : String} {h0 : Nat} {Qc : Array Value → State → Outcome → State → Prop} {free : Addr → Prop} {st0 : List Value}
theorem cPre_blind {av : List Value} {sz : Nat} : FrameBlind (cPre Γ av wc sz) := fun a U g mk q => by
  obtain ⟨q0, q1, qP, qK, qD⟩ := q
  exact ⟨q0, q1, qP, qK.blind, qD⟩
theorem cPre_S (X : Cx p s m args c cc nL own Γ) (hP : bP Γ wc H) (hD : bD (fun _ => True) wc) : PreS s H (cPre Γ As wc H.size) As :=
  ⟨cPre_blind, fun U hU hW => ⟨rfl, by rw [hU], by rw [hU]; exact hP, X.2.2.2.2.2.warm hW, hD⟩⟩
theorem cPre_V (X : Cx p s m args c cc nL own Γ) (hPb : bP Γ bs H) (hP : bP Γ wc H) (hD : bD (fun _ => True) wc) (k j : Nat) {blk : va_W} (hk : bs[k]? = some blk) {ci : Nat} {fs : List Value} (hj : blk[j]? = some (h0, .inr (ci, fs))) {T : u_T} {N : Nat} (hc : vwCl[ci]? = some (C, T, N)) : PreV s H C h0 (cPre Γ (.ref h0 :: As) wc H.size) As := by
  obtain ⟨i, hi, -⟩ := bl_at hk hj
  exact ⟨cPre_blind, va_recv (q := (C, T, N)) X.2.2.2.2.2.1 hPb hc hi, fun U hU hW => ⟨rfl, by rw [hU], by rw [hU]; exact hP, X.2.2.2.2.2.warm hW, hD⟩⟩
theorem aft_i {post : Int32 → S → Prop} {bs' : S → BW} {a : Array Value} (hP : bP Γ bs H) (hD : bD A bs) (hS : va_S A s.heap H locs) (hA : ∀ q, s.heap.size ≤ q → A q) (ks : List Nat) (hn : ks.Nodup) (hC : ks.map (fun i => bs[i]?) = wc.map some) (hlen : ∀ u, (bs' u).length = ks.length)
    (hr : va_Run p l e R s m args below meth c H locs cells slots mc ms (F0 m pc ls st0) rest (va_Qi post (cPost Γ wc H.size bs') (va_A wc.flatten H.size) a) (va_A wc.flatten H.size))
    (kk : ∀ (r : Int32) (u : S) (H1 : Heap) (locs1 : List Loc), post r u → bP Γ (setAll bs ks (bs' u)) H1 → bD A (setAll bs ks (bs' u)) → va_S A s.heap H1 locs1 → W p l e R s m args below meth c H1 locs1 (cells + mc) (slots + ms) Q (F0 m (pc + 3) ls (.int r :: rest))) : W p l e R s m args below meth c H locs cells slots Q (F0 m pc ls st0) := by
  have hF := bl_freeQ hD (pick_mem hC) hS hA
  refine va_calli hr hS (fun q _ h => hF q h) hF (fun r u t H1 locs1 ht hvm hw hB hz1 hk1 hS1 => ?_)
  obtain ⟨hP1, hD1⟩ := hB
  rw [ht] at hP1
  obtain ⟨h1, h2⟩ := bl_back hP hD ks hn hC hk1 hF (hlen u) hP1 hD1
  exact kk r u H1 locs1 hw h1 h2 hS1
theorem aft_l {post : Int64 → S → Prop} {bs' : S → BW} {a : Array Value} (hP : bP Γ bs H) (hD : bD A bs) (hS : va_S A s.heap H locs) (hA : ∀ q, s.heap.size ≤ q → A q) (ks : List Nat) (hn : ks.Nodup) (hC : ks.map (fun i => bs[i]?) = wc.map some) (hlen : ∀ u, (bs' u).length = ks.length)
    (hr : va_Run p l e R s m args below meth c H locs cells slots mc ms (F0 m pc ls st0) rest (va_Ql post (cPost Γ wc H.size bs') (va_A wc.flatten H.size) a) (va_A wc.flatten H.size))
    (kk : ∀ (r : Int64) (u : S) (H1 : Heap) (locs1 : List Loc), post r u → bP Γ (setAll bs ks (bs' u)) H1 → bD A (setAll bs ks (bs' u)) → va_S A s.heap H1 locs1 → W p l e R s m args below meth c H1 locs1 (cells + mc) (slots + ms) Q (F0 m (pc + 3) ls (.long r :: rest))) : W p l e R s m args below meth c H locs cells slots Q (F0 m pc ls st0) := by
  have hF := bl_freeQ hD (pick_mem hC) hS hA
  refine va_calll hr hS (fun q _ h => hF q h) hF (fun r u t H1 locs1 ht hvm hw hB hz1 hk1 hS1 => ?_)
  obtain ⟨hP1, hD1⟩ := hB
  rw [ht] at hP1
  obtain ⟨h1, h2⟩ := bl_back hP hD ks hn hC hk1 hF (hlen u) hP1 hD1
  exact kk r u H1 locs1 hw h1 h2 hS1
theorem aft_v {post : S → Prop} {bs' : S → BW} {a : Array Value} (hP : bP Γ bs H) (hD : bD A bs) (hS : va_S A s.heap H locs) (hA : ∀ q, s.heap.size ≤ q → A q) (ks : List Nat) (hn : ks.Nodup) (hC : ks.map (fun i => bs[i]?) = wc.map some) (hlen : ∀ u, (bs' u).length = ks.length)
    (hr : va_Run p l e R s m args below meth c H locs cells slots mc ms (F0 m pc ls st0) rest (va_Qv post (cPost Γ wc H.size bs') (va_A wc.flatten H.size) a) (va_A wc.flatten H.size))
    (kk : ∀ (u : S) (H1 : Heap) (locs1 : List Loc), post u → bP Γ (setAll bs ks (bs' u)) H1 → bD A (setAll bs ks (bs' u)) → va_S A s.heap H1 locs1 → W p l e R s m args below meth c H1 locs1 (cells + mc) (slots + ms) Q (F0 m (pc + 3) ls (rest))) : W p l e R s m args below meth c H locs cells slots Q (F0 m pc ls st0) := by
  have hF := bl_freeQ hD (pick_mem hC) hS hA
  refine va_callv hr hS (fun q _ h => hF q h) hF (fun u t H1 locs1 ht hvm hw hB hz1 hk1 hS1 => ?_)
  obtain ⟨hP1, hD1⟩ := hB
  rw [ht] at hP1
  obtain ⟨h1, h2⟩ := bl_back hP hD ks hn hC hk1 hF (hlen u) hP1 hD1
  exact kk u H1 locs1 hw h1 h2 hS1
theorem aftR_i {post : Int32 → Unit → Prop} {a : Array Value} (hP : bP Γ bs H) (hD : bD A bs) (hS : va_S A s.heap H locs) (hA : ∀ q, s.heap.size ≤ q → A q) (hm : ∀ q ∈ wc.flatten, q ∈ bs.flatten)
    (hr : va_Run p l e R s m args below meth c H locs cells slots mc ms (F0 m pc ls st0) rest (va_Qi post (cPost Γ wc H.size (fun _ => wc)) (va_A wc.flatten H.size) a) (va_A wc.flatten H.size))
    (kk : ∀ (r : Int32) (H1 : Heap) (locs1 : List Loc), post r () → bP Γ bs H1 → va_S A s.heap H1 locs1 → W p l e R s m args below meth c H1 locs1 (cells + mc) (slots + ms) Q (F0 m (pc + 3) ls (.int r :: rest))) : W p l e R s m args below meth c H locs cells slots Q (F0 m pc ls st0) := by
  have hF := bl_freeQ hD hm hS hA
  refine va_calli hr hS (fun q _ h => hF q h) hF (fun r u t H1 locs1 ht hvm hw hB hz1 hk1 hS1 => ?_)
  obtain ⟨hP1, hD1⟩ := hB
  rw [ht] at hP1
  exact kk r H1 locs1 hw (bl_same hP hk1 hP1 (hD.uniq hm)) hS1
theorem aftR_l {post : Int64 → Unit → Prop} {a : Array Value} (hP : bP Γ bs H) (hD : bD A bs) (hS : va_S A s.heap H locs) (hA : ∀ q, s.heap.size ≤ q → A q) (hm : ∀ q ∈ wc.flatten, q ∈ bs.flatten)
    (hr : va_Run p l e R s m args below meth c H locs cells slots mc ms (F0 m pc ls st0) rest (va_Ql post (cPost Γ wc H.size (fun _ => wc)) (va_A wc.flatten H.size) a) (va_A wc.flatten H.size))
    (kk : ∀ (r : Int64) (H1 : Heap) (locs1 : List Loc), post r () → bP Γ bs H1 → va_S A s.heap H1 locs1 → W p l e R s m args below meth c H1 locs1 (cells + mc) (slots + ms) Q (F0 m (pc + 3) ls (.long r :: rest))) : W p l e R s m args below meth c H locs cells slots Q (F0 m pc ls st0) := by
  have hF := bl_freeQ hD hm hS hA
  refine va_calll hr hS (fun q _ h => hF q h) hF (fun r u t H1 locs1 ht hvm hw hB hz1 hk1 hS1 => ?_)
  obtain ⟨hP1, hD1⟩ := hB
  rw [ht] at hP1
  exact kk r H1 locs1 hw (bl_same hP hk1 hP1 (hD.uniq hm)) hS1
/-- what is left to say of a call at its place: its frame's room, its arguments on the stack -/
abbrev rmOf (fr mc ms lo : Nat) : Room := { frames := fr, cells := mc, slots := ms, locals := lo }
theorem run_V (X : Cx p s m args c cc nL own Γ) (w : CWV own index C y b maxL rt n) {Pc : Array Value → State → Prop} (hM : Met l y (.code y b maxL rt :: ALLW) (rmOf fr mc ms lo) Pc Qc mc ms free) (hp : PreV s H C h0 Pc As) (hn : As.length = n) (hsz : ls.size = nL) (hst : st0 = As.reverse ++ .ref h0 :: rest) (hR : (fr + 1 ≤ R.frames ∧ 8 + (maxL + 11) + lo ≤ R.locals) ∧ cells + mc ≤ R.cells ∧ slots + ms ≤ R.slots) (hrm : (rest.map fun v => v.category).sum ≤ 8) (hdg : decode cc pc = .ok (.invokevirtual index, 3)) :
    va_Run p l e R s m args below meth c H locs cells slots mc ms (F0 m pc ls st0) rest (Qc (Value.ref h0 :: As).toArray) free := by
  obtain ⟨hx, hb, hml, hown, hts, hK⟩ := X
  obtain ⟨w1, w2, w3, w4, w5, w6⟩ := w
  exact va_runV ⟨hx, hb, hml, hown, hts⟩ hM ⟨callB_of n hts (good_code w1) rfl rfl rfl (hts _ w4) (hts _ w5) w6 hR.1, hts _ w2, hts _ w3⟩ hp rfl hn hsz hst (lv_room hrm) hdg hR.2
theorem run_S (X : Cx p s m args c cc nL own Γ) (w : CWS own index y b maxL rt n) {Pc : Array Value → State → Prop} (hM : Met l y (.code y b maxL rt :: ALLW) (rmOf fr mc ms lo) Pc Qc mc ms free) (hp : PreS s H Pc As) (hn : As.length = n) (hsz : ls.size = nL) (hst : st0 = As.reverse ++ rest) (hR : (fr + 1 ≤ R.frames ∧ 8 + (maxL + 11) + lo ≤ R.locals) ∧ cells + mc ≤ R.cells ∧ slots + ms ≤ R.slots) (hrm : (rest.map fun v => v.category).sum ≤ 8) (hdg : decode cc pc = .ok (.invokestatic index, 3)) :
    va_Run p l e R s m args below meth c H locs cells slots mc ms (F0 m pc ls st0) rest (Qc As.toArray) free := by
  obtain ⟨hx, hb, hml, hown, hts, hK⟩ := X
  obtain ⟨w1, w2, w4, w5, w6⟩ := w
  exact va_runS ⟨hx, hb, hml, hown, hts⟩ hM ⟨callB_of n hts (good_code w1) rfl rfl rfl (hts _ w4) (hts _ w5) w6 hR.1, hts _ w2⟩ hp rfl hn hsz hst (lv_room hrm) hdg hR.2
theorem run_SN {host : String} (X : Cx p s m args c cc nL own Γ) (w : CWSN own index y host b maxL rt n) {Pc : Array Value → State → Prop} (hM : Met l y (.code y b maxL rt :: ALLW) (rmOf fr mc ms lo) Pc Qc mc ms free) (hp : PreS s H Pc As) (hn : As.length = n) (hsz : ls.size = nL) (hst : st0 = As.reverse ++ rest) (hR : (fr + 1 ≤ R.frames ∧ 8 + (maxL + 11) + lo ≤ R.locals) ∧ cells + mc ≤ R.cells ∧ slots + ms ≤ R.slots) (hrm : (rest.map fun v => v.category).sum ≤ 8) (hdg : decode cc pc = .ok (.invokestatic index, 3)) :
    va_Run p l e R s m args below meth c H locs cells slots mc ms (F0 m pc ls st0) rest (Qc As.toArray) free := by
  obtain ⟨hx, hb, hml, hown, hts, hK⟩ := X
  obtain ⟨w1, w2, w4, w5, w6⟩ := w
  exact va_runSN ⟨hx, hb, hml, hown, hts⟩ hM ⟨va_cnB n hts (good_code w1) rfl rfl rfl (hK.2.1 _ w5) (hts _ w4) w6 hR.1, hts _ w2, trivial⟩ hp rfl hn hsz hst (lv_room hrm) hdg hR.2
theorem run_I (X : Cx p s m args c cc nL own Γ) (w : CWI own index y b maxL n) {Pc : Array Value → State → Prop} (hM : Met l y (.code y b maxL none :: ALLW) (rmOf fr mc ms lo) Pc Qc mc ms free) (hp : PreS s H Pc (.ref h0 :: As)) (hn : As.length = n) (hsz : ls.size = nL) (hst : st0 = As.reverse ++ .ref h0 :: rest) (hR : (fr + 1 ≤ R.frames ∧ 8 + (maxL + 11) + lo ≤ R.locals) ∧ cells + mc ≤ R.cells ∧ slots + ms ≤ R.slots) (hrm : (rest.map fun v => v.category).sum ≤ 8) (hdg : decode cc pc = .ok (.invokespecial index, 3)) :
    va_Run p l e R s m args below meth c H locs cells slots mc ms (F0 m pc ls st0) rest (Qc (Value.ref h0 :: As).toArray) free := by
  obtain ⟨hx, hb, hml, hown, hts, hK⟩ := X
  obtain ⟨w1, w2, w4, w5, w7, w6⟩ := w
  exact va_runI ⟨hx, hb, hml, hown, hts⟩ hM ⟨callB_of n hts (good_code w1) rfl rfl rfl (hts _ w4) (hts _ w5) w6 hR.1, w7, hts _ w2⟩ hp rfl hn hsz hst (lv_room hrm) hdg hR.2
theorem run_IN {host : String} (X : Cx p s m args c cc nL own Γ) (w : CWIN own index y host b maxL n) {Pc : Array Value → State → Prop} (hM : Met l y (.code y b maxL none :: ALLW) (rmOf fr mc ms lo) Pc Qc mc ms free) (hp : PreS s H Pc (.ref h0 :: As)) (hn : As.length = n) (hsz : ls.size = nL) (hst : st0 = As.reverse ++ .ref h0 :: rest) (hR : (fr + 1 ≤ R.frames ∧ 8 + (maxL + 11) + lo ≤ R.locals) ∧ cells + mc ≤ R.cells ∧ slots + ms ≤ R.slots) (hrm : (rest.map fun v => v.category).sum ≤ 8) (hdg : decode cc pc = .ok (.invokespecial index, 3)) :
    va_Run p l e R s m args below meth c H locs cells slots mc ms (F0 m pc ls st0) rest (Qc (Value.ref h0 :: As).toArray) free := by
  obtain ⟨hx, hb, hml, hown, hts, hK⟩ := X
  obtain ⟨w1, w2, w4, w5, w7, w6⟩ := w
  exact va_runIN ⟨hx, hb, hml, hown, hts⟩ hM ⟨va_cnB n hts (good_code w1) rfl rfl rfl (hK.2.1 _ w5) (hts _ w4) w6 hR.1, w7, hts _ w2⟩ hp rfl hn hsz hst (lv_room hrm) hdg hR.2
theorem run_O {owner : String} {x : MethodName} (X : Cx p s m args c cc nL own Γ) (w : CWO own index C owner x y b maxL rt n) {Pc : Array Value → State → Prop} (hM : Met l y (.code y b maxL rt :: ALLW) (rmOf fr mc ms lo) Pc Qc mc ms free) (hp : PreV s H C h0 Pc As) (hn : As.length = n) (hsz : ls.size = nL) (hst : st0 = As.reverse ++ .ref h0 :: rest) (hR : (fr + 1 ≤ R.frames ∧ 8 + (maxL + 11) + lo ≤ R.locals) ∧ cells + mc ≤ R.cells ∧ slots + ms ≤ R.slots) (hrm : (rest.map fun v => v.category).sum ≤ 8) (hdg : decode cc pc = .ok (.invokevirtual index, 3)) :
    va_Run p l e R s m args below meth c H locs cells slots mc ms (F0 m pc ls st0) rest (Qc (Value.ref h0 :: As).toArray) free := by
  obtain ⟨hx, hb, hml, hown, hts, hK⟩ := X
  obtain ⟨w1, w2, w3, w4, w5, w6, w7, ⟨b0, m0, r0, w8⟩, w9⟩ := w
  refine va_runU ⟨hx, hb, hml, hown, hts⟩ hM (va_cwO n hts ?_ rfl rfl rfl w8 w9 hR.1) hp rfl hn hsz hst (lv_room hrm) hdg hR.2
  intro z hz
  unfold va_wsO at hz
  rcases List.mem_append.mp hz with h | h
  · simp only [List.mem_cons, List.not_mem_nil, or_false] at h
    rcases h with rfl | rfl | rfl | rfl | rfl | rfl
    · exact good_one w2
    · exact good_one w3
    · exact good_one w4
    · exact good_one w5
    · exact good_one w6
    · exact good_one w7
  · exact good_code w1 z h
theorem run_SU {cC : ClassId} (X : Cx p s m args c cc nL own Γ) (w : CWSU own index y b maxL rt n) (hat : ClassAt s C cC) {Pc : Array Value → State → Prop} (hM : Met l y (.code y b maxL rt :: ALLW) (rmOf fr mc ms lo) Pc Qc mc ms free) (hp : PreV s H C h0 Pc As) (hn : As.length = n) (hsz : ls.size = nL) (hst : st0 = As.reverse ++ .ref h0 :: rest) (hR : (fr + 1 ≤ R.frames ∧ 8 + (maxL + 11) + lo ≤ R.locals) ∧ cells + mc ≤ R.cells ∧ slots + ms ≤ R.slots) (hrm : (rest.map fun v => v.category).sum ≤ 8) (hdg : decode cc pc = .ok (.invokespecial index, 3)) :
    va_Run p l e R s m args below meth c H locs cells slots mc ms (F0 m pc ls st0) rest (Qc (Value.ref h0 :: As).toArray) free := by
  obtain ⟨hx, hb, hml, hown, hts, hK⟩ := X
  obtain ⟨w1, w2, w3, w4, w5, w6, w7⟩ := w
  refine va_runSU hat ⟨hx, hb, hml, hown, hts⟩ hM (va_cwSU n hts ?_ rfl rfl rfl w7 hR.1) hp rfl hn hsz hst (lv_room hrm) hdg hR.2
  intro z hz
  unfold va_wsSU at hz
  rcases List.mem_append.mp hz with h | h
  · simp only [List.mem_cons, List.not_mem_nil, or_false] at h
    rcases h with rfl | rfl | rfl | rfl | rfl
    · exact good_one w2
    · exact good_one w3
    · exact good_one w4
    · exact good_one w5
    · exact good_one w6
  · exact good_code w1 z h
end KitD
