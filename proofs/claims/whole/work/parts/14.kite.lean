section KitU
/-- super.x(..) of a method that the superclass itself inherits from 'y.cls' -/
def CWSX (own : String) (index : Nat) (x y : MethodName) (b : ByteArray) (maxL : Nat) (rt : Option FieldType) (n : Nat) : Prop :=
  Cond.code y b maxL rt ∈ ALLW ∧ Cond.methodLink own index x ∈ ALLW ∧ Cond.sameMethod x.cls y.cls x.name x.desc ∈ ALLW ∧ Cond.superclass own x.cls ∈ ALLW ∧ Cond.superclass x.cls y.cls ∈ ALLW ∧ Cond.instanceMethod y ∈ ALLW ∧ Cond.initialized y.cls ∈ ALLW ∧ x.name = y.name ∧ x.desc = y.desc ∧ (x.name ≠ "<init>" ∧ (parseMethodDescriptor y.desc).map (fun d => d.parameters.length) = some n)
variable {p : Program} {l : Launch} {e : Env} {R : Room} {s : State} {m : MethodId} {args : Array Value} {below : List Frame} {meth : Method} {c : Code} {H : Heap} {locs : List Loc} {cells slots : Nat} {Q : State → Prop}
theorem sub_up {vm : Vm} {a q : ClassId} {k : Class} (h : vm.classes[a]? = some k) (hs : k.super = some q) : vm.isSubclass a q = true := by
  have hlt : a < vm.classes.size := (Array.getElem?_eq_some_iff.mp h).1
  unfold Vm.isSubclass
  obtain ⟨n, hn⟩ : ∃ n, vm.classes.size = n + 1 := ⟨vm.classes.size - 1, (Nat.succ_pred_eq_of_pos (Nat.lt_of_le_of_lt (Nat.zero_le _) hlt)).symm⟩
  rw [hn]
  simp [Vm.isSubclassAux, h, hs]
theorem callSX {T : State} (X : Stand p l e R s m args below meth c T locs cells slots) (hexec : p.tables.exec = Jvm.exec) {own : String} {index : Nat} {x y : MethodName} {bytes : ByteArray} {maxL : Nat} {ret : Option FieldType}
    (hown : s.vm.findClass own = some m.cls) (hlink : (Cond.methodLink own index x).before args s = true) (hsame : (Cond.sameMethod x.cls y.cls x.name x.desc).before args s = true) (hsup : (Cond.superclass own x.cls).before args s = true) (hsup2 : (Cond.superclass x.cls y.cls).before args s = true)
    (hinst : (Cond.instanceMethod y).before args s = true) (hcode : (Cond.code y bytes maxL ret).before args s = true) (hno : x.name ≠ "<init>") (e1 : x.name = y.name) (e2 : x.desc = y.desc)
    {W : Nat} {Pre : Pt → Array Value → Prop} {Post : Pt → Array Value → Option Value → Pt → Prop} (hK : Back l R p e below s args y 3 W Pre Post)
    {b : Addr} {cellB : Cell} {kB : Class} (hcell : T.heap[b]? = some cellB) (hobj : cellB.vm.isStatics = false) (hkB : s.vm.classes[cellB.cls]? = some kB)
    {g : JFrame} (hg : g.method = m) (hsize : g.locals.size = c.maxLocals) {argsL rest : List Value} (hlen : ∀ sig, parseMethodDescriptor y.desc = some sig → argsL.length = sig.parameters.length)
    (hstack : g.stack = argsL.reverse ++ .ref b :: rest) (hW : 2 * g.monitorRoom + (rest.map fun v => v.category).sum ≤ W) (hdg : decode c.code g.pc = .ok (.invokespecial index, 3))
    (hpre : ∀ vm₁, s.WarmedH vm₁ → Pre ⟨T.setVm vm₁, locs, cells, slots⟩ (Value.ref b :: argsL).toArray) :
    ∃ (v : Option Value) (vm₁ : Vm) (B : Pt), s.WarmedH vm₁ ∧ Stand p l e R s m args below meth c B.U B.locs B.cells B.slots ∧ Post ⟨T.setVm vm₁, locs, cells, slots⟩ (Value.ref b :: argsL).toArray v B ∧
      ∀ target, Steps p.tables e below (B.U.setTop { g with pc := g.pc + 3, stack := v.toList ++ rest }) target → Steps p.tables e below (T.setTop g) target := by
  obtain ⟨mk, methM, hnamed, hmethM, hstM, habM⟩ := Cond.instanceMethod_spec hinst
  obtain ⟨methM', cM, hmethM', -, -, -, -, -, -, hsigM⟩ := Cond.code_spec hnamed hcode
  cases hmethM.symm.trans hmethM'
  obtain ⟨ps, dk, kp, hps, hdk, hkp, hsuper, -, -, hnid⟩ := Cond.superclass_spec hown hsup
  obtain ⟨pt, dk2, kp2, hpt, hdk2, hkp2, hsuper2, -, -, -⟩ := Cond.superclass_spec hps hsup2
  have hn : s.methodNamed? ⟨y.cls, x.name, x.desc⟩ = some mk := by rw [e1, e2]; exact hnamed
  have hpm : pt = mk.cls := Option.some.inj (hpt.symm.trans (findClass_of_methodNamed hnamed))
  have hsub : s.vm.isSubclass ps mk.cls = true := by rw [← hpm]; exact sub_up hdk2 hsuper2
  obtain ⟨vm₁, X₁, hstep₁⟩ := X.invokespecialUp hexec hown hlink hsame hn hmethM hstM habM hno hdk hnid hps hsuper hsub (a := b) (cell := cellB) hcell
    (fun z h => by rw [h] at hobj; cases hobj) hkB (g := g) hg (argsL := argsL) (rest := rest) (hlen _ hsigM) hstack hdg
  obtain ⟨v, B, X', hpost, hsteps⟩ := hK m meth c ⟨T.setVm vm₁, locs, cells, slots⟩ { g with stack := rest } (.invokespecial index) mk (Value.ref b :: argsL).toArray X₁ hg hsize hdg hW (X₁.named hnamed) (hpre vm₁ X₁.warmed)
  exact ⟨v, vm₁, B, X₁.warmed, X', hpost, fun target h => hstep₁ _ (by rw [doInvoke_state]; exact hsteps.trans h)⟩
variable {cc : ByteArray} {nL pc : Nat} {own : String} {Γ : GG} {ls : Array Slot} {rest : List Value} {A : Nat → Prop}
  {y : MethodName} {b : ByteArray} {maxL index fr lo mc ms n : Nat} {rt : Option FieldType} {As : List Value} {wc bs : BW} {S : Type} {C : String} {h0 : Nat} {st0 : List Value} {Qc : Array Value → State → Outcome → State → Prop} {free : Addr → Prop}
theorem run_SX {x : MethodName} {cC : ClassId} (X : Cx p s m args c cc nL own Γ) (w : CWSX own index x y b maxL rt n) (hat : ClassAt s C cC) {Pc : Array Value → State → Prop} (hM : Met l y (.code y b maxL rt :: ALLW) (rmOf fr mc ms lo) Pc Qc mc ms free) (hp : PreV s H C h0 Pc As) (hn : As.length = n) (hsz : ls.size = nL) (hst : st0 = As.reverse ++ .ref h0 :: rest) (hR : (fr + 1 ≤ R.frames ∧ 8 + (maxL + 11) + lo ≤ R.locals) ∧ cells + mc ≤ R.cells ∧ slots + ms ≤ R.slots) (hrm : (rest.map fun v => v.category).sum ≤ 8) (hdg : decode cc pc = .ok (.invokespecial index, 3)) :
    va_Run p l e R s m args below meth c H locs cells slots mc ms (F0 m pc ls st0) rest (Qc (Value.ref h0 :: As).toArray) free := by
  obtain ⟨hx, hb, hml, hown, hts, hKK⟩ := X
  obtain ⟨w1, w2, w3, w4, w5, w6, w7, e1, e2, hno, hlen0⟩ := w
  have hlen : ∀ sig, parseMethodDescriptor y.desc = some sig → n = sig.parameters.length := fun sig h => by
    rw [h] at hlen0
    exact (Option.some.inj hlen0).symm
  have hG := good_code w1
  have hK : Back l R p e below s args y 3 8 (PreOf R mc ms Pc) (PostOf Qc mc ms free) := back_of (bytes := b) (maxL := maxL) (ret := rt) hM hp.1 rfl rfl hR.1.1 hR.1.2 (pay_in hts hG) List.mem_cons_self (fun a' U hW => word_at hW (Or.inl (by first | rfl | simp [Cond.onTables, Cond.keeps, Cond.steady])) (hts _ w7))
  obtain ⟨-, ⟨cellB, hcB, hoB, hclB⟩, hPc⟩ := hp
  obtain ⟨hfc, kB, hkB, -⟩ := hat
  cases hfc.symm.trans hclB
  intro T hT XX
  obtain ⟨v, vm₁, ⟨U', l2, c2, s2⟩, hW₁, X', ⟨g', mk, t, L, q1, q2, hq, h1, hL, h2, h3⟩, st⟩ := callSX XX hx (bytes := b) (maxL := maxL) (ret := rt) hown (hts _ w2) (hts _ w3) (hts _ w4) (hts _ w5) (hts _ w6) (hts _ w1) hno e1 e2 hK (by rw [hT]; exact hcB) hoB hkB (g := F0 m pc ls st0) rfl (hsz.trans hml.symm) (argsL := As) (rest := rest) (fun sig h => hn.trans (hlen sig h)) hst (lv_room hrm) (by rw [hb]; exact hdg)
    (fun vm₁ hW₁ => ⟨hR.2.1, hR.2.2, hPc (T.setVm vm₁) hT hW₁⟩)
  dsimp only [Pt.U, Pt.locs, Pt.cells, Pt.slots] at X' q1 q2 h1 h2 h3 st
  subst h1; subst h2; subst h3
  exact ⟨v, (T.setVm vm₁).calling g' mk (Value.ref h0 :: As).toArray, t, U', L, hT, X', hL, q1, q2, hq, st⟩
theorem callR_SXi {x : MethodName} {post : Int32 → Unit → Prop} (X : Cx p s m args c cc nL own Γ) (w : CWSX own index x y b maxL rt n) (K : Ci Γ l y b maxL rt fr lo mc ms (.ref h0 :: As) wc post (fun _ => wc)) (hP : bP Γ bs H) (hD : bD A bs) (hS : va_S A s.heap H locs) (hA : ∀ q, s.heap.size ≤ q → A q) (hm : ∀ q ∈ wc.flatten, q ∈ bs.flatten) (hDc : bD (fun _ => True) wc) (k j : Nat) {blk : va_W} (hk : bs[k]? = some blk) {ci : Nat} {fs : List Value} (hj : blk[j]? = some (h0, .inr (ci, fs))) {T : u_T} {N : Nat} (hc : vwCl[ci]? = some (C, T, N)) (hn : As.length = n) (hsz : ls.size = nL) (hst : st0 = As.reverse ++ .ref h0 :: rest) (hR : (fr + 1 ≤ R.frames ∧ 8 + (maxL + 11) + lo ≤ R.locals) ∧ cells + mc ≤ R.cells ∧ slots + ms ≤ R.slots) (hrm : (rest.map fun v => v.category).sum ≤ 8) (hdg : decode cc pc = .ok (.invokespecial index, 3))
    (kk : ∀ (r : Int32) (H1 : Heap) (locs1 : List Loc), post r () → bP Γ bs H1 → va_S A s.heap H1 locs1 → W p l e R s m args below meth c H1 locs1 (cells + mc) (slots + ms) Q (F0 m (pc + 3) ls (.int r :: rest))) : W p l e R s m args below meth c H locs cells slots Q (F0 m pc ls st0) :=
  aftR_i hP hD hS hA hm (run_SX X w (X.2.2.2.2.2.1.1 ci _ hc).2 (K H.size) (cPre_V X hP (hP.memQ hm) hDc k j hk hj hc) hn hsz hst hR hrm hdg) kk
end KitU
