section KitD
/-- the words of a call to a method of class C's own (invokevirtual, by its own name) -/
def CWV (own : String) (index : Nat) (C : String) (y : MethodName) (b : ByteArray) (maxL : Nat) (rt : Option FieldType) (n : Nat) : Prop :=
  Cond.code y b maxL rt ∈ ALLW ∧ Cond.instanceMethod y ∈ ALLW ∧ Cond.selects C y y ∈ ALLW ∧ Cond.initialized y.cls ∈ ALLW ∧ Cond.methodLink own index y ∈ ALLW ∧ (y.cls ≠ "java/lang/invoke/MethodHandle" ∧ y.cls ≠ "java/lang/invoke/VarHandle" ∧ (parseMethodDescriptor y.desc).map (fun d => d.parameters.length) = some n)
def CWS (own : String) (index : Nat) (y : MethodName) (b : ByteArray) (maxL : Nat) (rt : Option FieldType) (n : Nat) : Prop :=
  Cond.code y b maxL rt ∈ ALLW ∧ Cond.static y ∈ ALLW ∧ Cond.initialized y.cls ∈ ALLW ∧ Cond.methodLink own index y ∈ ALLW ∧ (y.cls ≠ "java/lang/invoke/MethodHandle" ∧ y.cls ≠ "java/lang/invoke/VarHandle" ∧ (parseMethodDescriptor y.desc).map (fun d => d.parameters.length) = some n)
def CWI (own : String) (index : Nat) (y : MethodName) (b : ByteArray) (maxL : Nat) (n : Nat) : Prop :=
  Cond.code y b maxL none ∈ ALLW ∧ Cond.instanceMethod y ∈ ALLW ∧ Cond.initialized y.cls ∈ ALLW ∧ Cond.methodLink own index y ∈ ALLW ∧ y.name = "<init>" ∧ (y.cls ≠ "java/lang/invoke/MethodHandle" ∧ y.cls ≠ "java/lang/invoke/VarHandle" ∧ (parseMethodDescriptor y.desc).map (fun d => d.parameters.length) = some n)
def CWSN (own : String) (index : Nat) (y : MethodName) (host : String) (b : ByteArray) (maxL : Nat) (rt : Option FieldType) (n : Nat) : Prop :=
  Cond.code y b maxL rt ∈ ALLW ∧ Cond.static y ∈ ALLW ∧ Cond.initialized y.cls ∈ ALLW ∧ Cond.methodLinkNest own index y host ∈ nestW ∧ (y.cls ≠ "java/lang/invoke/MethodHandle" ∧ y.cls ≠ "java/lang/invoke/VarHandle" ∧ (parseMethodDescriptor y.desc).map (fun d => d.parameters.length) = some n)
def CWIN (own : String) (index : Nat) (y : MethodName) (host : String) (b : ByteArray) (maxL : Nat) (n : Nat) : Prop :=
  Cond.code y b maxL none ∈ ALLW ∧ Cond.instanceMethod y ∈ ALLW ∧ Cond.initialized y.cls ∈ ALLW ∧ Cond.methodLinkNest own index y host ∈ nestW ∧ y.name = "<init>" ∧ (y.cls ≠ "java/lang/invoke/MethodHandle" ∧ y.cls ≠ "java/lang/invoke/VarHandle" ∧ (parseMethodDescriptor y.desc).map (fun d => d.parameters.length) = some n)
/-- a virtual call by the name x of class 'owner', which in C selects y -/
def CWO (own : String) (index : Nat) (C owner : String) (x y : MethodName) (b : ByteArray) (maxL : Nat) (rt : Option FieldType) (n : Nat) : Prop :=
  Cond.code y b maxL rt ∈ ALLW ∧ Cond.methodLink own index x ∈ ALLW ∧ Cond.sameMethod x.cls owner x.name x.desc ∈ ALLW ∧ Cond.instanceMethod ⟨owner, x.name, x.desc⟩ ∈ ALLW ∧ Cond.selects C x y ∈ ALLW ∧ Cond.instanceMethod y ∈ ALLW ∧ Cond.initialized y.cls ∈ ALLW ∧ (∃ b0 m0 r0, Cond.code ⟨owner, x.name, x.desc⟩ b0 m0 r0 ∈ ALLW) ∧ (owner ≠ "java/lang/invoke/MethodHandle" ∧ owner ≠ "java/lang/invoke/VarHandle" ∧ (parseMethodDescriptor x.desc).map (fun d => d.parameters.length) = some n)
/-- super.y(..) -/
def CWSU (own : String) (index : Nat) (y : MethodName) (b : ByteArray) (maxL : Nat) (rt : Option FieldType) (n : Nat) : Prop :=
  Cond.code y b maxL rt ∈ ALLW ∧ Cond.methodLink own index y ∈ ALLW ∧ Cond.sameMethod y.cls y.cls y.name y.desc ∈ ALLW ∧ Cond.superclass own y.cls ∈ ALLW ∧ Cond.instanceMethod y ∈ ALLW ∧ Cond.initialized y.cls ∈ ALLW ∧ (y.name ≠ "<init>" ∧ (parseMethodDescriptor y.desc).map (fun d => d.parameters.length) = some n)
theorem good_one {w : Cond} (h : w ∈ ALLW) : w ∈ ALLW ∧ ((w.onTables && w.keeps) = true ∨ ∃ ty, w = .arrayClass ty) := ⟨h, good_of_word (all_good h)⟩
theorem good_code {y : MethodName} {b : ByteArray} {maxL : Nat} {rt : Option FieldType} (h : Cond.code y b maxL rt ∈ ALLW) : GoodIn ALLW (Cond.code y b maxL rt :: ALLW) := fun w hw => by
  rcases List.mem_cons.mp hw with rfl | hw
  · exact good_one h
  · exact good_one hw
variable {p : Program} {l : Launch} {e : Env} {R : Room} {s : State} {m : MethodId} {args : Array Value} {below : List Frame} {meth : Method} {c : Code} {H : Heap} {locs : List Loc} {cells slots : Nat} {Q : State → Prop}
  {cc : ByteArray} {nL pc : Nat} {own : String} {Γ : GG} {ls : Array Slot} {rest : List Value} {A : Nat → Prop}
  {y : MethodName} {b : ByteArray} {maxL index fr lo mc ms n : Nat} {rt : Option FieldType} {As : List Value} {wc wr : BW} {S : Type} {C : String} {h0 : Nat} {Qc : Array Value → State → Outcome → State → Prop} {free : Addr → Prop} {st0 : List Value}
theorem cPre_blind {av : List Value} {sz : Nat} : FrameBlind (cPre Γ av wc sz) := fun a U g mk q => by
  obtain ⟨q0, q1, qP, qK, qD⟩ := q
  exact ⟨q0, q1, qP, qK.blind, qD⟩
theorem cPre_S (X : Cx p s m args c cc nL own Γ) (hP : bP Γ (wc ++ wr) H) (hD : bD A (wc ++ wr)) : PreS s H (cPre Γ As wc H.size) As :=
  ⟨cPre_blind, fun U hU hW => ⟨rfl, by rw [hU], by rw [hU]; exact hP.left, X.2.2.2.2.2.warm hW, hD.left.weak⟩⟩
theorem cPre_V (X : Cx p s m args c cc nL own Γ) (hP : bP Γ (wc ++ wr) H) (hD : bD A (wc ++ wr)) (k j : Nat) {blk : va_W} (hk : wc[k]? = some blk) {ci : Nat} {fs : List Value} (hj : blk[j]? = some (h0, .inr (ci, fs))) {T : u_T} {N : Nat} (hc : vwCl[ci]? = some (C, T, N)) : PreV s H C h0 (cPre Γ (.ref h0 :: As) wc H.size) As := by
  obtain ⟨i, hi, -⟩ := bl_at hk hj
  exact ⟨cPre_blind, va_recv (q := (C, T, N)) X.2.2.2.2.2.1 hP.left hc hi, fun U hU hW => ⟨rfl, by rw [hU], by rw [hU]; exact hP.left, X.2.2.2.2.2.warm hW, hD.left.weak⟩⟩
theorem aft_i {post : Int32 → S → Prop} {bs' : S → BW} {a : Array Value} (hP : bP Γ (wc ++ wr) H) (hD : bD A (wc ++ wr)) (hS : va_S A s.heap H locs) (hA : ∀ q, s.heap.size ≤ q → A q)
    (hr : va_Run p l e R s m args below meth c H locs cells slots mc ms (F0 m pc ls st0) rest (va_Qi post (cPost Γ wc H.size bs') (va_A wc.flatten H.size) a) (va_A wc.flatten H.size))
    (kk : ∀ (r : Int32) (u : S) (H1 : Heap) (locs1 : List Loc), post r u → bP Γ (bs' u ++ wr) H1 → bD A (bs' u ++ wr) → va_S A s.heap H1 locs1 → W p l e R s m args below meth c H1 locs1 (cells + mc) (slots + ms) Q (F0 m (pc + 3) ls (.int r :: rest))) : W p l e R s m args below meth c H locs cells slots Q (F0 m pc ls st0) := by
  have hF := bl_free hD hS hA
  refine va_calli hr hS (fun q _ h => hF q h) hF (fun r u t H1 locs1 ht hvm hw hB hz1 hk1 hS1 => ?_)
  obtain ⟨hP1, hD1⟩ := hB
  rw [ht] at hP1
  obtain ⟨h1, h2⟩ := bl_join hP hD hk1 hF hP1 hD1
  exact kk r u H1 locs1 hw h1 h2 hS1
theorem aft_l {post : Int64 → S → Prop} {bs' : S → BW} {a : Array Value} (hP : bP Γ (wc ++ wr) H) (hD : bD A (wc ++ wr)) (hS : va_S A s.heap H locs) (hA : ∀ q, s.heap.size ≤ q → A q)
    (hr : va_Run p l e R s m args below meth c H locs cells slots mc ms (F0 m pc ls st0) rest (va_Ql post (cPost Γ wc H.size bs') (va_A wc.flatten H.size) a) (va_A wc.flatten H.size))
    (kk : ∀ (r : Int64) (u : S) (H1 : Heap) (locs1 : List Loc), post r u → bP Γ (bs' u ++ wr) H1 → bD A (bs' u ++ wr) → va_S A s.heap H1 locs1 → W p l e R s m args below meth c H1 locs1 (cells + mc) (slots + ms) Q (F0 m (pc + 3) ls (.long r :: rest))) : W p l e R s m args below meth c H locs cells slots Q (F0 m pc ls st0) := by
  have hF := bl_free hD hS hA
  refine va_calll hr hS (fun q _ h => hF q h) hF (fun r u t H1 locs1 ht hvm hw hB hz1 hk1 hS1 => ?_)
  obtain ⟨hP1, hD1⟩ := hB
  rw [ht] at hP1
  obtain ⟨h1, h2⟩ := bl_join hP hD hk1 hF hP1 hD1
  exact kk r u H1 locs1 hw h1 h2 hS1
theorem aft_v {post : S → Prop} {bs' : S → BW} {a : Array Value} (hP : bP Γ (wc ++ wr) H) (hD : bD A (wc ++ wr)) (hS : va_S A s.heap H locs) (hA : ∀ q, s.heap.size ≤ q → A q)
    (hr : va_Run p l e R s m args below meth c H locs cells slots mc ms (F0 m pc ls st0) rest (va_Qv post (cPost Γ wc H.size bs') (va_A wc.flatten H.size) a) (va_A wc.flatten H.size))
    (kk : ∀ (u : S) (H1 : Heap) (locs1 : List Loc), post u → bP Γ (bs' u ++ wr) H1 → bD A (bs' u ++ wr) → va_S A s.heap H1 locs1 → W p l e R s m args below meth c H1 locs1 (cells + mc) (slots + ms) Q (F0 m (pc + 3) ls rest)) : W p l e R s m args below meth c H locs cells slots Q (F0 m pc ls st0) := by
  have hF := bl_free hD hS hA
  refine va_callv hr hS (fun q _ h => hF q h) hF (fun u t H1 locs1 ht hvm hw hB hz1 hk1 hS1 => ?_)
  obtain ⟨hP1, hD1⟩ := hB
  rw [ht] at hP1
  obtain ⟨h1, h2⟩ := bl_join hP hD hk1 hF hP1 hD1
  exact kk u H1 locs1 hw h1 h2 hS1
/-- what is left to say of a call at its place: its frame's room, its arguments on the stack -/
abbrev rmOf (fr mc ms lo : Nat) : Room := { frames := fr, cells := mc, slots := ms, locals := lo }
theorem run_V (X : Cx p s m args c cc nL own Γ) (w : CWV own index C y b maxL rt n) {Pc : Array Value → State → Prop} (hM : Met l y (.code y b maxL rt :: ALLW) (rmOf fr mc ms lo) Pc Qc mc ms free) (hp : PreV s H C h0 Pc As) (hn : As.length = n) (hsz : ls.size = nL) (hst : st0 = As.reverse ++ .ref h0 :: rest) (hR : (fr + 1 ≤ R.frames ∧ 8 + (maxL + 11) + lo ≤ R.locals) ∧ cells + mc ≤ R.cells ∧ slots + ms ≤ R.slots) (hrm : (rest.map fun v => v.category).sum ≤ 8) (hdg : decode cc pc = .ok (.invokevirtual index, 3)) :
    va_Run p l e R s m args below meth c H locs cells slots mc ms (F0 m pc ls st0) rest (Qc (Value.ref h0 :: As).toArray) free := by
  obtain ⟨hx, hb, hml, hown, hts, hK⟩ := X
  obtain ⟨w1, w2, w3, w4, w5, w6⟩ := w
  exact va_runV ⟨hx, hb, hml, hown, hts⟩ hM ⟨callB_of n hts (good_code w1) rfl rfl rfl (hts _ w4) (hts _ w5) w6 hR.1, hts _ w2, hts _ w3⟩ hp rfl hn hsz hst (lv_room hrm) hdg hR.2
theorem run_S (X : Cx p s m args c cc nL own Γ) (w : CWS own index y b maxL rt n) {Pc : Array Value → State → Prop} (hM : Met l y (.code y b maxL rt :: ALLW) (rmOf fr mc ms lo) Pc Qc mc ms free) (hp : PreS s H Pc As) (hn : As.length = n) (hsz : ls.size = nL) (hst : st0 = As.reverse ++ rest) (hR : (fr + 1 ≤ R.frames ∧ 8 + (maxL + 11) + lo ≤ R.locals) ∧ cells + mc ≤ R.cells ∧ slots + ms ≤ R.slots) (hrm : (rest.map fun v => v.category).sum ≤ 8) (hdg : decode cc pc = .ok (.invokestatic index, 3)) :
    va_Run p l e R s m args below meth c H locs cells slots mc ms (F0 m pc ls st0) rest (Qc As.toArray) free := by
  obtain ⟨hx, hb, hml, hown, hts, hK⟩ := X
  obtain ⟨w1, w2, w4, w5, w6⟩ := w
  exact va_runS ⟨hx, hb, hml, hown, hts⟩ hM ⟨callB_of n hts (good_code w1) rfl rfl rfl (hts _ w4) (hts _ w5) w6 hR.1, hts _ w2⟩ hp rfl hn hsz hst (lv_room hrm) hdg hR.2
theorem run_SN {host : String} (X : Cx p s m args c cc nL own Γ) (w : CWSN own index y host b maxL rt n) {Pc : Array Value → State → Prop} (hM : Met l y (.code y b maxL rt :: ALLW) (rmOf fr mc ms lo) Pc Qc mc ms free) (hp : PreS s H Pc As) (hn : As.length = n) (hsz : ls.size = nL) (hst : st0 = As.reverse ++ rest) (hR : (fr + 1 ≤ R.frames ∧ 8 + (maxL + 11) + lo ≤ R.locals) ∧ cells + mc ≤ R.cells ∧ slots + ms ≤ R.slots) (hrm : (rest.map fun v => v.category).sum ≤ 8) (hdg : decode cc pc = .ok (.invokestatic index, 3)) :
    va_Run p l e R s m args below meth c H locs cells slots mc ms (F0 m pc ls st0) rest (Qc As.toArray) free := by
  obtain ⟨hx, hb, hml, hown, hts, hK⟩ := X
  obtain ⟨w1, w2, w4, w5, w6⟩ := w
  exact va_runSN ⟨hx, hb, hml, hown, hts⟩ hM ⟨va_cnB n hts (good_code w1) rfl rfl rfl (hK.2.1 _ w5) (hts _ w4) w6 hR.1, hts _ w2, trivial⟩ hp rfl hn hsz hst (lv_room hrm) hdg hR.2
theorem run_I (X : Cx p s m args c cc nL own Γ) (w : CWI own index y b maxL n) {Pc : Array Value → State → Prop} (hM : Met l y (.code y b maxL none :: ALLW) (rmOf fr mc ms lo) Pc Qc mc ms free) (hp : PreS s H Pc (.ref h0 :: As)) (hn : As.length = n) (hsz : ls.size = nL) (hst : st0 = As.reverse ++ .ref h0 :: rest) (hR : (fr + 1 ≤ R.frames ∧ 8 + (maxL + 11) + lo ≤ R.locals) ∧ cells + mc ≤ R.cells ∧ slots + ms ≤ R.slots) (hrm : (rest.map fun v => v.category).sum ≤ 8) (hdg : decode cc pc = .ok (.invokespecial index, 3)) :
    va_Run p l e R s m args below meth c H locs cells slots mc ms (F0 m pc ls st0) rest (Qc (Value.ref h0 :: As).toArray) free := by
  obtain ⟨hx, hb, hml, hown, hts, hK⟩ := X
  obtain ⟨w1, w2, w4, w5, w7, w6⟩ := w
  exact va_runI ⟨hx, hb, hml, hown, hts⟩ hM ⟨callB_of n hts (good_code w1) rfl rfl rfl (hts _ w4) (hts _ w5) w6 hR.1, w7, hts _ w2⟩ hp rfl hn hsz hst (lv_room hrm) hdg hR.2
theorem run_IN {host : String} (X : Cx p s m args c cc nL own Γ) (w : CWIN own index y host b maxL n) {Pc : Array Value → State → Prop} (hM : Met l y (.code y b maxL none :: ALLW) (rmOf fr mc ms lo) Pc Qc mc ms free) (hp : PreS s H Pc (.ref h0 :: As)) (hn : As.length = n) (hsz : ls.size = nL) (hst : st0 = As.reverse ++ .ref h0 :: rest) (hR : (fr + 1 ≤ R.frames ∧ 8 + (maxL + 11) + lo ≤ R.locals) ∧ cells + mc ≤ R.cells ∧ slots + ms ≤ R.slots) (hrm : (rest.map fun v => v.category).sum ≤ 8) (hdg : decode cc pc = .ok (.invokespecial index, 3)) :
    va_Run p l e R s m args below meth c H locs cells slots mc ms (F0 m pc ls st0) rest (Qc (Value.ref h0 :: As).toArray) free := by
  obtain ⟨hx, hb, hml, hown, hts, hK⟩ := X
  obtain ⟨w1, w2, w4, w5, w7, w6⟩ := w
  exact va_runIN ⟨hx, hb, hml, hown, hts⟩ hM ⟨va_cnB n hts (good_code w1) rfl rfl rfl (hK.2.1 _ w5) (hts _ w4) w6 hR.1, w7, hts _ w2⟩ hp rfl hn hsz hst (lv_room hrm) hdg hR.2
theorem run_O {owner : String} {x : MethodName} (X : Cx p s m args c cc nL own Γ) (w : CWO own index C owner x y b maxL rt n) {Pc : Array Value → State → Prop} (hM : Met l y (.code y b maxL rt :: ALLW) (rmOf fr mc ms lo) Pc Qc mc ms free) (hp : PreV s H C h0 Pc As) (hn : As.length = n) (hsz : ls.size = nL) (hst : st0 = As.reverse ++ .ref h0 :: rest) (hR : (fr + 1 ≤ R.frames ∧ 8 + (maxL + 11) + lo ≤ R.locals) ∧ cells + mc ≤ R.cells ∧ slots + ms ≤ R.slots) (hrm : (rest.map fun v => v.category).sum ≤ 8) (hdg : decode cc pc = .ok (.invokevirtual index, 3)) :
    va_Run p l e R s m args below meth c H locs cells slots mc ms (F0 m pc ls st0) rest (Qc (Value.ref h0 :: As).toArray) free := by
  obtain ⟨hx, hb, hml, hown, hts, hK⟩ := X
  obtain ⟨w1, w2, w3, w4, w5, w6, w7, ⟨b0, m0, r0, w8⟩, w9⟩ := w
  refine va_runU ⟨hx, hb, hml, hown, hts⟩ hM (va_cwO n hts ?_ rfl rfl rfl w8 w9 hR.1) hp rfl hn hsz hst (lv_room hrm) hdg hR.2
  intro z hz
  unfold va_wsO at hz
  rcases List.mem_append.mp hz with h | h
  · simp only [List.mem_cons, List.not_mem_nil, or_false] at h
    rcases h with rfl | rfl | rfl | rfl | rfl | rfl
    · exact good_one w2
    · exact good_one w3
    · exact good_one w4
    · exact good_one w5
    · exact good_one w6
    · exact good_one w7
  · exact good_code w1 z h
theorem run_SU {cC : ClassId} (X : Cx p s m args c cc nL own Γ) (w : CWSU own index y b maxL rt n) (hat : ClassAt s C cC) {Pc : Array Value → State → Prop} (hM : Met l y (.code y b maxL rt :: ALLW) (rmOf fr mc ms lo) Pc Qc mc ms free) (hp : PreV s H C h0 Pc As) (hn : As.length = n) (hsz : ls.size = nL) (hst : st0 = As.reverse ++ .ref h0 :: rest) (hR : (fr + 1 ≤ R.frames ∧ 8 + (maxL + 11) + lo ≤ R.locals) ∧ cells + mc ≤ R.cells ∧ slots + ms ≤ R.slots) (hrm : (rest.map fun v => v.category).sum ≤ 8) (hdg : decode cc pc = .ok (.invokespecial index, 3)) :
    va_Run p l e R s m args below meth c H locs cells slots mc ms (F0 m pc ls st0) rest (Qc (Value.ref h0 :: As).toArray) free := by
  obtain ⟨hx, hb, hml, hown, hts, hK⟩ := X
  obtain ⟨w1, w2, w3, w4, w5, w6, w7⟩ := w
  refine va_runSU hat ⟨hx, hb, hml, hown, hts⟩ hM (va_cwSU n hts ?_ rfl rfl rfl w7 hR.1) hp rfl hn hsz hst (lv_room hrm) hdg hR.2
  intro z hz
  unfold va_wsSU at hz
  rcases List.mem_append.mp hz with h | h
  · simp only [List.mem_cons, List.not_mem_nil, or_false] at h
    rcases h with rfl | rfl | rfl | rfl | rfl
    · exact good_one w2
    · exact good_one w3
    · exact good_one w4
    · exact good_one w5
    · exact good_one w6
  · exact good_code w1 z h
end KitD
