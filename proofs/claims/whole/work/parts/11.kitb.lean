section KitB
/-- what a method's walk stands on -/
def Cx (p : Program) (s : State) (m : MethodId) (args : Array Value) (c : Code) (cc : ByteArray) (nL : Nat) (own : String) (Γ : GG) : Prop :=
  p.tables.exec = Jvm.exec ∧ c.code = cc ∧ c.maxLocals = nL ∧ s.vm.findClass own = some m.cls ∧ (∀ w ∈ ALLW, w.before args s = true) ∧ gK Γ s
abbrev cPre (Γ : GG) (av : List Value) (bs : BW) (sz : Nat) : Array Value → State → Prop := va_Pc av (fun U => U.heap.size = sz ∧ bP Γ bs U.heap ∧ gK Γ U ∧ bD (fun _ => True) bs)
abbrev cPost {S : Type} (Γ : GG) (bs : BW) (sz : Nat) (bs' : S → BW) : S → State → Prop := fun u t => bP Γ (bs' u) t.heap ∧ va_D (va_A bs.flatten sz) (bs' u).flatten
/-- a contract with an int (or boolean) answer; 'fr lo mc ms': frames, locals, new cells, new slots -/
def Ci (Γ : GG) (l : Launch) (y : MethodName) (b : ByteArray) (n : Nat) (rt : Option FieldType) (fr lo mc ms : Nat) (av : List Value) (bs : BW) {S : Type} (post : Int32 → S → Prop) (bs' : S → BW) : Prop :=
  ∀ sz, Met l y (.code y b n rt :: ALLW) { frames := fr, cells := mc, slots := ms, locals := lo } (cPre Γ av bs sz) (va_Qi post (cPost Γ bs sz bs') (va_A bs.flatten sz)) mc ms (va_A bs.flatten sz)
def Cv (Γ : GG) (l : Launch) (y : MethodName) (b : ByteArray) (n : Nat) (rt : Option FieldType) (fr lo mc ms : Nat) (av : List Value) (bs : BW) {S : Type} (post : S → Prop) (bs' : S → BW) : Prop :=
  ∀ sz, Met l y (.code y b n rt :: ALLW) { frames := fr, cells := mc, slots := ms, locals := lo } (cPre Γ av bs sz) (va_Qv post (cPost Γ bs sz bs') (va_A bs.flatten sz)) mc ms (va_A bs.flatten sz)
def Cl (Γ : GG) (l : Launch) (y : MethodName) (b : ByteArray) (n : Nat) (rt : Option FieldType) (fr lo mc ms : Nat) (av : List Value) (bs : BW) {S : Type} (post : Int64 → S → Prop) (bs' : S → BW) : Prop :=
  ∀ sz, Met l y (.code y b n rt :: ALLW) { frames := fr, cells := mc, slots := ms, locals := lo } (cPre Γ av bs sz) (va_Ql post (cPost Γ bs sz bs') (va_A bs.flatten sz)) mc ms (va_A bs.flatten sz)
variable {Γ : GG} {l : Launch} {y : MethodName} {b : ByteArray} {n fr lo mc ms : Nat} {rt : Option FieldType} {av : List Value} {bs : BW} {S : Type}
theorem Ci.of {post : Int32 → S → Prop} {bs' : S → BW} (ht : rt = some .int ∨ rt = some .boolean) (hy : plainName y.cls = true) (hn : (lg_sl av).length ≤ n)
    (h : ∀ (p : Program) (e : Env) (s : State) (m : MethodId) (below : List Frame) (meth : Method) (c : Code) (A : Nat → Prop) (Q : State → Prop), Cx p s m av.toArray c b n y.cls Γ → meth.name = y.name → (∀ q, s.heap.size ≤ q → A q) → bP Γ bs s.heap → bD A bs →
      (∀ (H : Heap) (locs : List Loc) (r : Int32) (u : S) (pc : Nat) (ls : Array Slot), decode b pc = .ok (.ireturn, 1) → (rt = some .boolean → narrow .boolean (.int r) = .int r) → post r u → bP Γ (bs' u) H → bD A (bs' u) → va_S A s.heap H locs → W p l e { frames := fr, cells := mc, slots := ms, locals := lo } s m av.toArray below meth c H locs mc ms Q (F0 m pc ls [.int r])) →
      ∀ ls, lv_has ls n (lv_args 0 av) → W p l e { frames := fr, cells := mc, slots := ms, locals := lo } s m av.toArray below meth c s.heap [] 0 0 Q (F0 m 0 ls [])) : Ci Γ l y b n rt fr lo mc ms av bs post bs' := by
  intro sz
  refine Met.ofW (cc := b) (maxL := n) (ret := rt) hy rfl ?_
  intro p e s m args below meth c s₁ B hml hv
  obtain ⟨rfl, hsz, hP, hK, hD⟩ := hv
  have hx := B.exec
  have hb := B.bytes
  have hr := B.returns
  have hts := atoms_spec (ws := Cond.code y b n rt :: ALLW) B.pre
  have hown : s.vm.findClass y.cls = some m.cls := findClass_of_methodNamed B.named
  have hlocks := B.notSynchronized
  have hin : meth.name = y.name := (name_of_methodNamed B.named B.method).1
  subst hsz
  rw [lg_entry_eq]
  refine h p e s m below meth c (va_A bs.flatten s.heap.size) _ ⟨hx, hb, hml, hown, fun w hw => hts w (List.mem_cons_of_mem _ hw), hK⟩ hin (fun q hq => Or.inr hq) hP (va_D.self hD) ?_ _ (lv_entry av hn)
  intro H locs r u pc ls hd hz hp hP hD hS
  rcases ht with ht | ht
  · subst ht
    exact W.iret hx hb hr (fun t ht hW => ⟨⟨r, u, rfl, hp, by show va_P _ _ _ t.heap; rw [ht]; exact hP, hD⟩, hS.F ht⟩) hS.2.2 hd
  · subst ht
    exact W.zret hx hb hr (hz rfl) (fun t ht hW => ⟨⟨r, u, rfl, hp, by show va_P _ _ _ t.heap; rw [ht]; exact hP, hD⟩, hS.F ht⟩) hS.2.2 hd
theorem Cv.of {post : S → Prop} {bs' : S → BW} (ht : rt = none) (hy : plainName y.cls = true) (hn : (lg_sl av).length ≤ n)
    (h : ∀ (p : Program) (e : Env) (s : State) (m : MethodId) (below : List Frame) (meth : Method) (c : Code) (A : Nat → Prop) (Q : State → Prop), Cx p s m av.toArray c b n y.cls Γ → meth.name = y.name → (∀ q, s.heap.size ≤ q → A q) → bP Γ bs s.heap → bD A bs →
      (∀ (H : Heap) (locs : List Loc) (u : S) (pc : Nat) (ls : Array Slot), decode b pc = .ok (.return_, 1) → post u → bP Γ (bs' u) H → bD A (bs' u) → va_S A s.heap H locs → W p l e { frames := fr, cells := mc, slots := ms, locals := lo } s m av.toArray below meth c H locs mc ms Q (F0 m pc ls [])) →
      ∀ ls, lv_has ls n (lv_args 0 av) → W p l e { frames := fr, cells := mc, slots := ms, locals := lo } s m av.toArray below meth c s.heap [] 0 0 Q (F0 m 0 ls [])) : Cv Γ l y b n rt fr lo mc ms av bs post bs' := by
  intro sz
  refine Met.ofW (cc := b) (maxL := n) (ret := rt) hy rfl ?_
  intro p e s m args below meth c s₁ B hml hv
  obtain ⟨rfl, hsz, hP, hK, hD⟩ := hv
  have hx := B.exec
  have hb := B.bytes
  have hr := B.returns
  have hts := atoms_spec (ws := Cond.code y b n rt :: ALLW) B.pre
  have hown : s.vm.findClass y.cls = some m.cls := findClass_of_methodNamed B.named
  have hlocks := B.notSynchronized
  have hin : meth.name = y.name := (name_of_methodNamed B.named B.method).1
  subst hsz
  rw [lg_entry_eq]
  refine h p e s m below meth c (va_A bs.flatten s.heap.size) _ ⟨hx, hb, hml, hown, fun w hw => hts w (List.mem_cons_of_mem _ hw), hK⟩ hin (fun q hq => Or.inr hq) hP (va_D.self hD) ?_ _ (lv_entry av hn)
  intro H locs u pc ls hd hp hP hD hS
  subst ht
  exact W.vret hx hb hr (fun t ht hW => ⟨⟨u, rfl, hp, by show va_P _ _ _ t.heap; rw [ht]; exact hP, hD⟩, hS.F ht⟩) hS.2.2 hd
theorem Cl.of {post : Int64 → S → Prop} {bs' : S → BW} (ht : rt = some .long) (hy : plainName y.cls = true) (hn : (lg_sl av).length ≤ n)
    (h : ∀ (p : Program) (e : Env) (s : State) (m : MethodId) (below : List Frame) (meth : Method) (c : Code) (A : Nat → Prop) (Q : State → Prop), Cx p s m av.toArray c b n y.cls Γ → meth.name = y.name → (∀ q, s.heap.size ≤ q → A q) → bP Γ bs s.heap → bD A bs →
      (∀ (H : Heap) (locs : List Loc) (r : Int64) (u : S) (pc : Nat) (ls : Array Slot), decode b pc = .ok (.lreturn, 1) → post r u → bP Γ (bs' u) H → bD A (bs' u) → va_S A s.heap H locs → W p l e { frames := fr, cells := mc, slots := ms, locals := lo } s m av.toArray below meth c H locs mc ms Q (F0 m pc ls [.long r])) →
      ∀ ls, lv_has ls n (lv_args 0 av) → W p l e { frames := fr, cells := mc, slots := ms, locals := lo } s m av.toArray below meth c s.heap [] 0 0 Q (F0 m 0 ls [])) : Cl Γ l y b n rt fr lo mc ms av bs post bs' := by
  intro sz
  refine Met.ofW (cc := b) (maxL := n) (ret := rt) hy rfl ?_
  intro p e s m args below meth c s₁ B hml hv
  obtain ⟨rfl, hsz, hP, hK, hD⟩ := hv
  have hx := B.exec
  have hb := B.bytes
  have hr := B.returns
  have hts := atoms_spec (ws := Cond.code y b n rt :: ALLW) B.pre
  have hown : s.vm.findClass y.cls = some m.cls := findClass_of_methodNamed B.named
  have hlocks := B.notSynchronized
  have hin : meth.name = y.name := (name_of_methodNamed B.named B.method).1
  subst hsz
  rw [lg_entry_eq]
  refine h p e s m below meth c (va_A bs.flatten s.heap.size) _ ⟨hx, hb, hml, hown, fun w hw => hts w (List.mem_cons_of_mem _ hw), hK⟩ hin (fun q hq => Or.inr hq) hP (va_D.self hD) ?_ _ (lv_entry av hn)
  intro H locs r u pc ls hd hp hP hD hS
  subst ht
  exact W.lret hx hb hr (fun t ht hW => ⟨⟨r, u, rfl, hp, by show va_P _ _ _ t.heap; rw [ht]; exact hP, hD⟩, hS.F ht⟩) hS.2.2 hd
end KitB
section KitC
variable {p : Program} {l : Launch} {e : Env} {R : Room} {s : State} {m : MethodId} {args : Array Value} {below : List Frame} {meth : Method} {c : Code} {H : Heap} {locs : List Loc} {cells slots : Nat} {Q : State → Prop}
  {cc : ByteArray} {nL pc : Nat} {own : String} {Γ : GG} {bs : BW} {ls : Array Slot} {rest : List Value} {A : Nat → Prop}
theorem g_get (X : Cx p s m args c cc nL own Γ) (hP : bP Γ bs H) (k j : Nat) {blk : va_W} (hk : bs[k]? = some blk) {a ci : Nat} {fs : List Value} (hj : blk[j]? = some (a, .inr (ci, fs))) {C : String} {T : u_T} {N : Nat} (hc : vwCl[ci]? = some (C, T, N)) (iw : ∀ w ∈ u_ws C T N, w ∈ ALLW) (f : Nat) (hf : f < N) {index : Nat} (hl : (Cond.fieldLink own index (T f).1 (T f).2.1 (T f).2.2.1) ∈ ALLW) {v : Value} (hv : fs[f]? = some v) (hdg : decode cc pc = .ok (.getfield index, 3))
    (kk : W p l e R s m args below meth c H locs cells slots Q (F0 m (pc + 3) ls (v :: rest))) : W p l e R s m args below meth c H locs cells slots Q (F0 m pc ls (.ref a :: rest)) := by
  obtain ⟨hx, hb, hml, hown, hts, hK⟩ := X
  obtain ⟨i, hi, -⟩ := bl_at hk hj
  exact va_get hx hb hts iw hown hK.1 hP i hi hc f hf (hts _ hl) (fun _ h => h) hv hdg kk
theorem g_put (X : Cx p s m args c cc nL own Γ) (hP : bP Γ bs H) (hD : bD A bs) (hS : va_S A s.heap H locs) (k j : Nat) {blk : va_W} (hk : bs[k]? = some blk) {a ci : Nat} {fs : List Value} (hj : blk[j]? = some (a, .inr (ci, fs))) {C : String} {T : u_T} {N : Nat} (hc : vwCl[ci]? = some (C, T, N)) (iw : ∀ w ∈ u_ws C T N, w ∈ ALLW) {ty0 : Nat → FieldType} (hty : ∀ k, k < N → parseFieldDescriptor (T k).2.2.1 = some (ty0 k)) (hnm : ∀ a, a < N → ∀ b, b < N → a ≠ b → (T a).2.1 ≠ (T b).2.1)
    (f : Nat) (hf : f < N) {index : Nat} (hl : (Cond.fieldLink own index (T f).1 (T f).2.1 (T f).2.2.1) ∈ ALLW) (hfin : (T f).2.2.2 = false) {v : Value} (hn : narrow (ty0 f) v = v) (hfit : fits (ty0 f) v = true) (hlen : f < fs.length) (hcat : v.category = 1) {blk' : va_W} (hset : blk.set j (a, .inr (ci, fs.set f v)) = blk') {bs' : BW} (hbs : bs.set k blk' = bs') (hdg : decode cc pc = .ok (.putfield index, 3))
    (kk : ∀ (H1 : Heap) (locs1 : List Loc), bP Γ bs' H1 → bD A bs' → va_S A s.heap H1 locs1 → W p l e R s m args below meth c H1 locs1 cells slots Q (F0 m (pc + 3) ls rest)) : W p l e R s m args below meth c H locs cells slots Q (F0 m pc ls (v :: .ref a :: rest)) := by
  obtain ⟨hx, hb, hml, hown, hts, hK⟩ := X
  obtain ⟨i, hi, hst⟩ := bl_at hk hj
  subst hbs
  subst hset
  refine va_put hx hb hts iw ty0 hty hnm hown hK.1 hP hD hS i hi hc f hf (hts _ hl) (fun _ h => h) hfin (hty f hf) hn hfit hlen hdg ?_
  intro H1 locs1 h1 h2 h3
  rw [hst] at h1 h2
  exact kk H1 locs1 h1 h2 h3
theorem g_iald (X : Cx p s m args c cc nL own Γ) (hP : bP Γ bs H) (k j : Nat) {blk : va_W} (hk : bs[k]? = some blk) {a n : Nat} {f : Nat → Int32} (hj : blk[j]? = some (a, .inl (Γ.2 0, n, .inl f))) {i : Int32} (hin : vp_in i n) (hdg : decode cc pc = .ok (.iaload, 1))
    (kk : W p l e R s m args below meth c H locs cells slots Q (F0 m (pc + 1) ls (.int (f i.toNatClampNeg) :: rest))) : W p l e R s m args below meth c H locs cells slots Q (F0 m pc ls (.int i :: .ref a :: rest)) := by
  obtain ⟨hx, hb, hml, hown, hts, hK⟩ := X
  obtain ⟨q, hi, -⟩ := bl_at hk hj
  exact va_iald hx hb hK.1 hP q 0 hi rfl hin hdg kk
theorem g_ialdN (X : Cx p s m args c cc nL own Γ) (hP : bP Γ bs H) (k j : Nat) {blk : va_W} (hk : bs[k]? = some blk) {a n : Nat} {f : Nat → Int32} (hj : blk[j]? = some (a, .inl (Γ.2 0, n, .inl f))) {i : Nat} (hin : i < n) (hn : n < 1000) (hdg : decode cc pc = .ok (.iaload, 1))
    (kk : W p l e R s m args below meth c H locs cells slots Q (F0 m (pc + 1) ls (.int (f i) :: rest))) : W p l e R s m args below meth c H locs cells slots Q (F0 m pc ls (.int (nI i) :: .ref a :: rest)) := by
  refine g_iald X hP k j hk hj (vp_in_nI hin (by omega)) hdg ?_
  rw [nI_clamp (by omega)]
  exact kk
theorem g_iast (X : Cx p s m args c cc nL own Γ) (hP : bP Γ bs H) (hD : bD A bs) (hS : va_S A s.heap H locs) (k j : Nat) {blk : va_W} (hk : bs[k]? = some blk) {a n : Nat} {f : Nat → Int32} (hj : blk[j]? = some (a, .inl (Γ.2 0, n, .inl f))) {i x : Int32} (hin : vp_in i n) {blk' : va_W} (hset : blk.set j (a, .inl (Γ.2 0, n, .inl (upd f i.toNatClampNeg x))) = blk') {bs' : BW} (hbs : bs.set k blk' = bs') (hdg : decode cc pc = .ok (.iastore, 1))
    (kk : ∀ (H1 : Heap) (locs1 : List Loc), bP Γ bs' H1 → bD A bs' → va_S A s.heap H1 locs1 → W p l e R s m args below meth c H1 locs1 cells slots Q (F0 m (pc + 1) ls rest)) : W p l e R s m args below meth c H locs cells slots Q (F0 m pc ls (.int x :: .int i :: .ref a :: rest)) := by
  obtain ⟨hx, hb, hml, hown, hts, hK⟩ := X
  obtain ⟨q, hi, hst⟩ := bl_at hk hj
  subst hbs
  subst hset
  refine va_iast hx hb hK.1 hP hD hS q 0 hi rfl hin hdg ?_
  intro H1 locs1 h1 h2 h3
  rw [hst] at h1 h2
  exact kk H1 locs1 h1 h2 h3
theorem g_iastN (X : Cx p s m args c cc nL own Γ) (hP : bP Γ bs H) (hD : bD A bs) (hS : va_S A s.heap H locs) (k j : Nat) {blk : va_W} (hk : bs[k]? = some blk) {a n : Nat} {f : Nat → Int32} (hj : blk[j]? = some (a, .inl (Γ.2 0, n, .inl f))) {i : Nat} {x : Int32} (hin : i < n) (hn : n < 1000) {blk' : va_W} (hset : blk.set j (a, .inl (Γ.2 0, n, .inl (upd f i x))) = blk') {bs' : BW} (hbs : bs.set k blk' = bs') (hdg : decode cc pc = .ok (.iastore, 1))
    (kk : ∀ (H1 : Heap) (locs1 : List Loc), bP Γ bs' H1 → bD A bs' → va_S A s.heap H1 locs1 → W p l e R s m args below meth c H1 locs1 cells slots Q (F0 m (pc + 1) ls rest)) : W p l e R s m args below meth c H locs cells slots Q (F0 m pc ls (.int x :: .int (nI i) :: .ref a :: rest)) := by
  refine g_iast X hP hD hS k j hk hj (vp_in_nI hin (by omega)) ?_ hbs hdg kk
  rw [nI_clamp (by omega)]
  exact hset
end KitC
