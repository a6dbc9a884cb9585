/-- literals' addresses, their bytes', the static row's -/
abbrev AK : Type := (Nat → Nat) × (Nat → Nat) × Nat
abbrev lenA : List Nat := [5, 4, 4, 4, 4, 6]
abbrev bytA : List (List Int32) := [wdL 0, wdL 1, wdL 2, wdL 3, wdL 4, wdL 5]
def ixA : Nat → Nat
  | 0 => 68
  | 1 => 74
  | 2 => 76
  | 3 => 78
  | 4 => 80
  | _ => 82
def txA : Nat → String
  | 0 => "coast"
  | 1 => "cell"
  | 2 => "dike"
  | 3 => "want"
  | 4 => "moon"
  | _ => "treaty"
/-- what stands outside of the methods' own cells: texts, the row of numbers behind each word, two statics of the JDK's -/
def LT (K : AK) (A : Nat → Prop) (U : State) (H : Heap) : Prop :=
  vk_S 6 lenA bytA K.1 K.2.1 A U H ∧ (∀ i, i < 6 → vk_R RX7 (ixA i) (txA i) (K.1 i) U) ∧ va_Z "java/lang/String" "COMPACT_STRINGS" "Z" (.int 1) A U H ∧ (va_Z "TideTreaty$Script" "NUMBERS_BEHIND" "[I" (.ref K.2.2) A U H ∧ va_T .int K.2.2 6 (fun j => .int (nI (nbN j))) A U H) ∧ va_Zq "jdk/internal/util/Preconditions" "SIOOBE_FORMATTER" "Ljava/util/function/BiFunction;" A U H
theorem LT.at {K : AK} {A B : Nat → Prop} {s : State} {H : Heap} {locs : List Loc} (h : LT K A s s.heap) (hS : va_S A s.heap H locs) (hB : ∀ q, B q → A q) : LT K B s H :=
  ⟨(h.1.kept hS.2.1).narrow hB, h.2.1, (h.2.2.1.kept hS.2.1).narrow hB, ⟨(h.2.2.2.1.1.kept hS.2.1).narrow hB, (h.2.2.2.1.2.kept hS.2.1).narrow hB⟩, (h.2.2.2.2.kept hS.2.1).narrow hB⟩
theorem LT.warm {K : AK} {A : Nat → Prop} {s U : State} {H : Heap} (hW : s.WarmedH U.vm) (h : LT K A s H) : LT K A U H :=
  ⟨h.1.moved hW.alike, fun i hi => (h.2.1 i hi).warm hW, h.2.2.1.moved hW.alike, ⟨h.2.2.2.1.1.moved hW.alike, h.2.2.2.1.2.moved hW.alike⟩, h.2.2.2.2.moved hW.alike⟩
theorem LT.blind {K : AK} {A : Nat → Prop} {U : State} {H : Heap} {g : JFrame} {mk : MethodId} {a : Array Value} (h : LT K A U H) : LT K A (U.calling g mk a) H :=
  have hv : U.vm.Alike (U.calling g mk a).vm := Vm.Alike.refl U.vm
  ⟨h.1.moved hv, fun i hi => vk_R.same (u := U) (U := U.calling g mk a) rfl (h.2.1 i hi), h.2.2.1.moved hv, ⟨h.2.2.2.1.1.moved hv, h.2.2.2.1.2.moved hv⟩, h.2.2.2.2.moved hv⟩
abbrev cPreA (K : AK) (Γ : GG) (av : List Value) (bs : BW) (sz : Nat) : Array Value → State → Prop := va_Pc av (fun U => U.heap.size = sz ∧ bP Γ bs U.heap ∧ gK Γ U ∧ bD (fun _ => True) bs ∧ LT K (va_A bs.flatten sz) U U.heap)
def Cia (K : AK) (Γ : GG) (l : Launch) (y : MethodName) (b : ByteArray) (n : Nat) (rt : Option FieldType) (fr lo mc ms : Nat) (av : List Value) (bs : BW) {S : Type} (post : Int32 → S → Prop) (bs' : S → BW) : Prop :=
  ∀ sz, Met l y (.code y b n rt :: ALLW) { frames := fr, cells := mc, slots := ms, locals := lo } (cPreA K Γ av bs sz) (va_Qi post (cPost Γ bs sz bs') (va_A bs.flatten sz)) mc ms (va_A bs.flatten sz)
def Cva (K : AK) (Γ : GG) (l : Launch) (y : MethodName) (b : ByteArray) (n : Nat) (rt : Option FieldType) (fr lo mc ms : Nat) (av : List Value) (bs : BW) {S : Type} (post : S → Prop) (bs' : S → BW) : Prop :=
  ∀ sz, Met l y (.code y b n rt :: ALLW) { frames := fr, cells := mc, slots := ms, locals := lo } (cPreA K Γ av bs sz) (va_Qv post (cPost Γ bs sz bs') (va_A bs.flatten sz)) mc ms (va_A bs.flatten sz)
section AmbA
variable {K : AK} {Γ : GG} {l : Launch} {y : MethodName} {b : ByteArray} {n fr lo mc ms : Nat} {rt : Option FieldType} {av : List Value} {bs : BW} {S : Type}
theorem Cia.of {ty : FieldType} {post : Int32 → S → Prop} {bs' : S → BW} (ht : rt = some ty) (hy : plainName y.cls = true) (hn : (lg_sl av).length ≤ n)
    (h : ∀ (p : Program) (e : Env) (s : State) (m : MethodId) (below : List Frame) (meth : Method) (c : Code) (A : Nat → Prop) (Q : State → Prop), Cx p s m av.toArray c b n y.cls Γ → LT K A s s.heap → meth.name = y.name → (∀ q, s.heap.size ≤ q → A q) → bP Γ bs s.heap → bD A bs →
      (∀ (H : Heap) (locs : List Loc) (r : Int32) (u : S) (pc : Nat) (ls : Array Slot), decode b pc = .ok (.ireturn, 1) → narrow ty (.int r) = .int r → post r u → bP Γ (bs' u) H → bD A (bs' u) → va_S A s.heap H locs → W p l e { frames := fr, cells := mc, slots := ms, locals := lo } s m av.toArray below meth c H locs mc ms Q (F0 m pc ls [.int r])) →
      ∀ ls, lv_has ls n (lv_args 0 av) → W p l e { frames := fr, cells := mc, slots := ms, locals := lo } s m av.toArray below meth c s.heap [] 0 0 Q (F0 m 0 ls [])) : Cia K Γ l y b n rt fr lo mc ms av bs post bs' := by
  intro sz
  refine Met.ofW (cc := b) (maxL := n) (ret := rt) hy rfl ?_
  intro p e s m args below meth c s₁ B hml hv
  obtain ⟨rfl, hsz, hP, hK, hD, hL⟩ := hv
  have hx := B.exec
  have hb := B.bytes
  have hr := B.returns
  have hts := atoms_spec (ws := Cond.code y b n rt :: ALLW) B.pre
  have hown : s.vm.findClass y.cls = some m.cls := findClass_of_methodNamed B.named
  have hin : meth.name = y.name := (name_of_methodNamed B.named B.method).1
  subst hsz
  rw [lg_entry_eq]
  refine h p e s m below meth c (va_A bs.flatten s.heap.size) _ ⟨hx, hb, hml, hown, fun w hw => hts w (List.mem_cons_of_mem _ hw), hK⟩ hL hin (fun q hq => Or.inr hq) hP (va_D.self hD) ?_ _ (lv_entry av hn)
  intro H locs r u pc ls hd hz hp hP hD hS
  subst ht
  exact W.zret hx hb hr hz (fun t ht hW => ⟨⟨r, u, rfl, hp, by show va_P _ _ _ t.heap; rw [ht]; exact hP, hD⟩, hS.F ht⟩) hS.2.2 hd
theorem Cva.of {post : S → Prop} {bs' : S → BW} (ht : rt = none) (hy : plainName y.cls = true) (hn : (lg_sl av).length ≤ n)
    (h : ∀ (p : Program) (e : Env) (s : State) (m : MethodId) (below : List Frame) (meth : Method) (c : Code) (A : Nat → Prop) (Q : State → Prop), Cx p s m av.toArray c b n y.cls Γ → LT K A s s.heap → meth.name = y.name → (∀ q, s.heap.size ≤ q → A q) → bP Γ bs s.heap → bD A bs →
      (∀ (H : Heap) (locs : List Loc) (u : S) (pc : Nat) (ls : Array Slot), decode b pc = .ok (.return_, 1) → post u → bP Γ (bs' u) H → bD A (bs' u) → va_S A s.heap H locs → W p l e { frames := fr, cells := mc, slots := ms, locals := lo } s m av.toArray below meth c H locs mc ms Q (F0 m pc ls [])) →
      ∀ ls, lv_has ls n (lv_args 0 av) → W p l e { frames := fr, cells := mc, slots := ms, locals := lo } s m av.toArray below meth c s.heap [] 0 0 Q (F0 m 0 ls [])) : Cva K Γ l y b n rt fr lo mc ms av bs post bs' := by
  intro sz
  refine Met.ofW (cc := b) (maxL := n) (ret := rt) hy rfl ?_
  intro p e s m args below meth c s₁ B hml hv
  obtain ⟨rfl, hsz, hP, hK, hD, hL⟩ := hv
  have hx := B.exec
  have hb := B.bytes
  have hr := B.returns
  have hts := atoms_spec (ws := Cond.code y b n rt :: ALLW) B.pre
  have hown : s.vm.findClass y.cls = some m.cls := findClass_of_methodNamed B.named
  have hin : meth.name = y.name := (name_of_methodNamed B.named B.method).1
  subst hsz
  rw [lg_entry_eq]
  refine h p e s m below meth c (va_A bs.flatten s.heap.size) _ ⟨hx, hb, hml, hown, fun w hw => hts w (List.mem_cons_of_mem _ hw), hK⟩ hL hin (fun q hq => Or.inr hq) hP (va_D.self hD) ?_ _ (lv_entry av hn)
  intro H locs u pc ls hd hp hP hD hS
  subst ht
  exact W.vret hx hb hr (fun t ht hW => ⟨⟨u, rfl, hp, by show va_P _ _ _ t.heap; rw [ht]; exact hP, hD⟩, hS.F ht⟩) hS.2.2 hd
end AmbA
section AmbB
variable {p : Program} {l : Launch} {e : Env} {R : Room} {s : State} {m : MethodId} {args : Array Value} {below : List Frame} {meth : Method} {c : Code} {H : Heap} {locs : List Loc} {cells slots : Nat} {Q : State → Prop}
  {cc : ByteArray} {nL pc : Nat} {own : String} {K0 : AK} {Γ : GG} {ls : Array Slot} {rest : List Value} {A : Nat → Prop}
  {y : MethodName} {b : ByteArray} {maxL index fr lo mc ms n : Nat} {rt : Option FieldType} {As : List Value} {wc bs : BW} {S : Type} {C : String} {h0 : Nat} {st0 : List Value}
theorem cPreA_blind {av : List Value} {sz : Nat} : FrameBlind (cPreA K0 Γ av wc sz) := fun a U g mk q => by
  obtain ⟨q0, q1, qP, qK, qD, qL⟩ := q
  exact ⟨q0, q1, qP, qK.blind, qD, qL.blind⟩
theorem cPreA_S (X : Cx p s m args c cc nL own Γ) (hP : bP Γ wc H) (hD : bD (fun _ => True) wc) (hL : LT K0 (va_A wc.flatten H.size) s H) : PreS s H (cPreA K0 Γ As wc H.size) As :=
  ⟨cPreA_blind, fun U hU hW => ⟨rfl, by rw [hU], by rw [hU]; exact hP, X.2.2.2.2.2.warm hW, hD, by rw [hU]; exact hL.warm hW⟩⟩
theorem cPreA_V (X : Cx p s m args c cc nL own Γ) (hPb : bP Γ bs H) (hP : bP Γ wc H) (hD : bD (fun _ => True) wc) (hL : LT K0 (va_A wc.flatten H.size) s H) (k j : Nat) {blk : va_W} (hk : bs[k]? = some blk) {ci : Nat} {fs : List Value} (hj : blk[j]? = some (h0, .inr (ci, fs))) {T : u_T} {N : Nat} (hc : vwCl[ci]? = some (C, T, N)) : PreV s H C h0 (cPreA K0 Γ (.ref h0 :: As) wc H.size) As := by
  obtain ⟨i, hi, -⟩ := bl_at hk hj
  exact ⟨cPreA_blind, va_recv (q := (C, T, N)) X.2.2.2.2.2.1 hPb hc hi, fun U hU hW => ⟨rfl, by rw [hU], by rw [hU]; exact hP, X.2.2.2.2.2.warm hW, hD, by rw [hU]; exact hL.warm hW⟩⟩
theorem call_ViA {post : Int32 → S → Prop} {bs' : S → BW} (X : Cx p s m args c cc nL own Γ) (hLT : LT K0 A s s.heap) (w : CWV own index C y b maxL rt n) (K : Cia K0 Γ l y b maxL rt fr lo mc ms (.ref h0 :: As) wc post bs') (hP : bP Γ bs H) (hD : bD A bs) (hS : va_S A s.heap H locs) (hA : ∀ q, s.heap.size ≤ q → A q) (ks : List Nat) (hks : ks.Nodup) (hC : ks.map (fun i => bs[i]?) = wc.map some) (hlen : ∀ u, (bs' u).length = ks.length) (k j : Nat) {blk : va_W} (hk : bs[k]? = some blk) {ci : Nat} {fs : List Value} (hj : blk[j]? = some (h0, .inr (ci, fs))) {T : u_T} {N : Nat} (hc : vwCl[ci]? = some (C, T, N)) (hn : As.length = n) (hsz : ls.size = nL) (hst : st0 = As.reverse ++ .ref h0 :: rest) (hR : (fr + 1 ≤ R.frames ∧ 8 + (maxL + 11) + lo ≤ R.locals) ∧ cells + mc ≤ R.cells ∧ slots + ms ≤ R.slots) (hrm : (rest.map fun v => v.category).sum ≤ 8) (hdg : decode cc pc = .ok (.invokevirtual index, 3))
    (kk : ∀ (r : Int32) (u : S) (H1 : Heap) (locs1 : List Loc), post r u → bP Γ (setAll bs ks (bs' u)) H1 → bD A (setAll bs ks (bs' u)) → va_S A s.heap H1 locs1 → W p l e R s m args below meth c H1 locs1 (cells + mc) (slots + ms) Q (F0 m (pc + 3) ls (.int r :: rest))) : W p l e R s m args below meth c H locs cells slots Q (F0 m pc ls st0) :=
  aft_i hP hD hS hA ks hks hC hlen (run_V X w (K H.size) (cPreA_V X hP (hP.memQ (pick_mem hC)) (pickT hD ks hks hC) (hLT.at hS (bl_freeQ hD (pick_mem hC) hS hA)) k j hk hj hc) hn hsz hst hR hrm hdg) kk
/-- a call on a literal: no cell of ours -/
theorem call_ViL {post : Int32 → Unit → Prop} (X : Cx p s m args c cc nL own Γ) (hLT : LT K0 A s s.heap) (w : CWV own index "java/lang/String" y b maxL rt n) {i : Nat} (hi : i < 6) (K : Cia K0 Γ l y b maxL rt fr lo mc ms (.ref (K0.1 i) :: As) [] post (fun _ => [])) (hP : bP Γ bs H) (hD : bD A bs) (hS : va_S A s.heap H locs) (hA : ∀ q, s.heap.size ≤ q → A q) (hn : As.length = n) (hsz : ls.size = nL) (hst : st0 = As.reverse ++ .ref (K0.1 i) :: rest) (hR : (fr + 1 ≤ R.frames ∧ 8 + (maxL + 11) + lo ≤ R.locals) ∧ cells + mc ≤ R.cells ∧ slots + ms ≤ R.slots) (hrm : (rest.map fun v => v.category).sum ≤ 8) (hdg : decode cc pc = .ok (.invokevirtual index, 3))
    (kk : ∀ (r : Int32) (H1 : Heap) (locs1 : List Loc), post r () → bP Γ bs H1 → va_S A s.heap H1 locs1 → W p l e R s m args below meth c H1 locs1 (cells + mc) (slots + ms) Q (F0 m (pc + 3) ls (.int r :: rest))) : W p l e R s m args below meth c H locs cells slots Q (F0 m pc ls st0) :=
  aftR_i hP hD hS hA nil_mem (run_V X w (K H.size) ⟨cPreA_blind, vk_recv hLT.1 hi hS, fun U hU hW => ⟨rfl, by rw [hU], by rw [hU]; exact hP.memQ nil_mem, X.2.2.2.2.2.warm hW, nil_D, by rw [hU]; exact (hLT.at hS (bl_freeQ hD nil_mem hS hA)).warm hW⟩⟩ hn hsz hst hR hrm hdg) kk
theorem call_SiA {post : Int32 → Unit → Prop} (X : Cx p s m args c cc nL own Γ) (hLT : LT K0 A s s.heap) (w : CWS own index y b maxL rt n) (K : Cia K0 Γ l y b maxL rt fr lo mc ms As [] post (fun _ => [])) (hP : bP Γ bs H) (hD : bD A bs) (hS : va_S A s.heap H locs) (hA : ∀ q, s.heap.size ≤ q → A q) (hn : As.length = n) (hsz : ls.size = nL) (hst : st0 = As.reverse ++ rest) (hR : (fr + 1 ≤ R.frames ∧ 8 + (maxL + 11) + lo ≤ R.locals) ∧ cells + mc ≤ R.cells ∧ slots + ms ≤ R.slots) (hrm : (rest.map fun v => v.category).sum ≤ 8) (hdg : decode cc pc = .ok (.invokestatic index, 3))
    (kk : ∀ (r : Int32) (H1 : Heap) (locs1 : List Loc), post r () → bP Γ bs H1 → va_S A s.heap H1 locs1 → W p l e R s m args below meth c H1 locs1 (cells + mc) (slots + ms) Q (F0 m (pc + 3) ls (.int r :: rest))) : W p l e R s m args below meth c H locs cells slots Q (F0 m pc ls st0) :=
  aftR_i hP hD hS hA nil_mem (run_S X w (K H.size) (cPreA_S X (hP.memQ nil_mem) nil_D (hLT.at hS (bl_freeQ hD nil_mem hS hA))) hn hsz hst hR hrm hdg) kk
theorem call_SvA {post : Unit → Prop} (X : Cx p s m args c cc nL own Γ) (hLT : LT K0 A s s.heap) (w : CWS own index y b maxL rt n) (K : Cva K0 Γ l y b maxL rt fr lo mc ms As [] post (fun _ => [])) (hP : bP Γ bs H) (hD : bD A bs) (hS : va_S A s.heap H locs) (hA : ∀ q, s.heap.size ≤ q → A q) (hn : As.length = n) (hsz : ls.size = nL) (hst : st0 = As.reverse ++ rest) (hR : (fr + 1 ≤ R.frames ∧ 8 + (maxL + 11) + lo ≤ R.locals) ∧ cells + mc ≤ R.cells ∧ slots + ms ≤ R.slots) (hrm : (rest.map fun v => v.category).sum ≤ 8) (hdg : decode cc pc = .ok (.invokestatic index, 3))
    (kk : ∀ (u : Unit) (H1 : Heap) (locs1 : List Loc), post u → bP Γ (setAll bs [] []) H1 → bD A (setAll bs [] []) → va_S A s.heap H1 locs1 → W p l e R s m args below meth c H1 locs1 (cells + mc) (slots + ms) Q (F0 m (pc + 3) ls rest)) : W p l e R s m args below meth c H locs cells slots Q (F0 m pc ls st0) :=
  aft_v hP hD hS hA [] (by decide) rfl (fun _ => rfl) (run_S X w (K H.size) (cPreA_S X (hP.memQ nil_mem) nil_D (hLT.at hS (bl_freeQ hD nil_mem hS hA))) hn hsz hst hR hrm hdg) kk
end AmbB
