
/-! THE CLAIM OUT OF ONE WALK OF THE LAW'S BODY. Your part is whole_start (and what it stands on); all else here is the same for every law, but numbers. -/
def R_law : String := "TideTreatyLaw"
def lw_P (b : Addr) (xs : List Int32) (args : Array Value) (s : State) : Prop := args = #[.ref b] ∧ s.IntsAt b xs ∧ xs.length ≤ 448 ∧ (Jvm.Cond.and given_1 narrow_1).before args s = true
def lw_Q (_ : Array Value) (s : State) (o : Outcome) (t : State) : Prop := o = .returned (some (.int 1)) ∧ Framed s o t [] 600000 7302250
def lw_Z (below : List Frame) (a : Array Value) (s : State) : State → Prop := fun t => ∃ o, t.status = .running ∧ Ended t below o ∧ lw_Q a s o t
/-- the law's own end, with 1 on the stack, nothing written that was there before, its room as the claim has it -/
theorem lw_ret {p : Program} {l : Launch} {e : Env} {s : State} {m : MethodId} {below : List Frame} {meth : Method} {c : Code} {b : Nat} (hx : p.tables.exec = Jvm.exec) (hb : c.code = code) (hr : meth.sig.returnType = ret) (hlocks : meth.locks = false) {pc : Nat} {H : Heap} {ls : Array Slot} (hdg : decode code pc = .ok (.ireturn, 1)) : W p l e room_1 s m #[Value.ref b] below meth c H [] 600000 7302250 (lw_Z below #[Value.ref b] s) (F0 m pc ls [.int 1]) := by
  intro T hT X
  obtain ⟨fs, hret, hrun, hended, hW, hframe⟩ := X.leave (v := some (.int 1)) (hlocks := hlocks) (fun h => by rw [hr] at h; cases h)
  have hmeth' : T.vm.method? m = some meth := X.method'
  refine ⟨T.setFrames fs, ?_, .returned (some (.int 1)), hrun, hended, rfl, ⟨_, rfl⟩, hW, hframe⟩
  jvm_step X.here [X.here.top, hx, hb, hdg, hmeth', hr, ret, narrow_b1]
  (try refine ⟨rfl, ?_⟩); (try refine ⟨rfl, ?_⟩)
  first | (intro acts; rw [hret _ acts rfl rfl rfl]) | rw [hret _ _ rfl rfl rfl]
  exact Steps.refl _
/-- what holds at the law's entry: the machine, the code, the tables' words (any of lw_tbl by 'hts w (by decide +kernel)'), the script of L ints xs at the cell b, what the Statement gives of the start (any of its parts by flat_of_before) -/
def lw_At (p : Program) (s : State) (m : MethodId) (meth : Method) (c : Code) (b L : Nat) (xs : Nat → Int32) : Prop :=
  p.tables.exec = Jvm.exec ∧ c.code = code ∧ meth.sig.returnType = ret ∧ c.maxLocals = 4 ∧ s.vm.findClass R_law = some m.cls ∧ (∀ w ∈ lw_tbl, w.before #[Value.ref b] s = true) ∧ va_X b L xs s s.heap ∧ b < s.heap.size ∧ meth.locks = false ∧ (Jvm.Cond.and given_1 narrow_1).before #[Value.ref b] s = true

theorem ci_L_9 : CWI RL 9 yX11_init cX11_init 2 0 := ⟨cd_X11_init, im_X11_init, in_X11, ml_L_9, rfl, by decide +kernel⟩
theorem ci_L_12 : CWI RL 12 yX12_init cX12_init 1 0 := ⟨cd_X12_init, im_X12_init, in_X12, ml_L_12, rfl, by decide +kernel⟩
theorem st_eq {Γ : GG} {t m s x c k y : Nat → Nat} {p : Nat → Nat → Nat} {d z : Nat → Nat} {p2 : Nat → Nat → Nat} {bk : Nat → Int32} : ([List.flatten [bTT Γ t s x (0, 0, 0), bKd Γ k, (bSt Γ s c y p 0 ++ bCo Γ c k (co0 6 coD) ++ bTs Γ c k trD ++ bYr Γ y yr0 ++ bYr Γ (p 0) yrD ++ bYr Γ (p 1) yrD ++ bYr Γ (p 2) yrD ++ bYr Γ (p 3) yrD ++ bYr Γ (p 4) yrD ++ bYr Γ (p 5) yrD), (bSt Γ x d z p2 0 ++ bCo Γ d k (co0 6 coD) ++ bTs Γ d k trD ++ bYr Γ z yr0 ++ bYr Γ (p2 0) yrD ++ bYr Γ (p2 1) yrD ++ bYr Γ (p2 2) yrD ++ bYr Γ (p2 3) yrD ++ bYr Γ (p2 4) yrD ++ bYr Γ (p2 5) yrD), [(t 1, .inl (Γ.2 3, 2, .inr (.inr (.inr (.inr (fun _ => none))))))], bSc Γ t scD, bA Γ (t 3) 6 (fun _ => 0)], List.flatten [bMo Γ m (false, 0, 0, 0, 0, 0, 0), bA Γ (m 1) 259 bk, bA Γ (m 2) 518 (fun _ => 0), bZ Γ (m 3) 2 (fun _ => 0), bA Γ (m 4) 259 (fun _ => 0), bA Γ (m 5) 259 (fun _ => 0), bA Γ (m 6) 3 (fun _ => 0), bA Γ (m 7) 150 (fun _ => 0), bA Γ (m 8) 350 (fun _ => 0), bA Γ (m 9) 6 (fun _ => 0), bA Γ (m 10) 8 (fun _ => 0)]] : BW).flatten = (LW Γ t m s x c k y p d z p2 (0, 0, 0) 0 (co0 6 coD) trD yr0 (fun _ => yrD) 0 (co0 6 coD) trD yr0 (fun _ => yrD) (fun _ => none) scD (fun _ => 0) [] [] (false, 0, 0, 0, 0, 0, 0) bk (fun _ => 0) (fun _ => 0) (fun _ => 0) (fun _ => 0) (fun _ => 0) (fun _ => 0) (fun _ => 0) (fun _ => 0) (fun _ => 0)).flatten := by
  simp only [LW, List.flatten_cons, List.flatten_nil, List.append_nil, List.nil_append, List.append_assoc]
theorem st_lj {Γ : GG} {t m s x c k y : Nat → Nat} {p : Nat → Nat → Nat} {d z : Nat → Nat} {p2 : Nat → Nat → Nat} {bk : Nat → Int32} {H0 H : Heap} {locs : List Loc} {A : Nat → Prop} (hr : Rel bk (co0 6 coD) trD yr0 0 (fun _ => yrD)) (hP : bP Γ [List.flatten [bTT Γ t s x (0, 0, 0), bKd Γ k, (bSt Γ s c y p 0 ++ bCo Γ c k (co0 6 coD) ++ bTs Γ c k trD ++ bYr Γ y yr0 ++ bYr Γ (p 0) yrD ++ bYr Γ (p 1) yrD ++ bYr Γ (p 2) yrD ++ bYr Γ (p 3) yrD ++ bYr Γ (p 4) yrD ++ bYr Γ (p 5) yrD), (bSt Γ x d z p2 0 ++ bCo Γ d k (co0 6 coD) ++ bTs Γ d k trD ++ bYr Γ z yr0 ++ bYr Γ (p2 0) yrD ++ bYr Γ (p2 1) yrD ++ bYr Γ (p2 2) yrD ++ bYr Γ (p2 3) yrD ++ bYr Γ (p2 4) yrD ++ bYr Γ (p2 5) yrD), [(t 1, .inl (Γ.2 3, 2, .inr (.inr (.inr (.inr (fun _ => none))))))], bSc Γ t scD, bA Γ (t 3) 6 (fun _ => 0)], List.flatten [bMo Γ m (false, 0, 0, 0, 0, 0, 0), bA Γ (m 1) 259 bk, bA Γ (m 2) 518 (fun _ => 0), bZ Γ (m 3) 2 (fun _ => 0), bA Γ (m 4) 259 (fun _ => 0), bA Γ (m 5) 259 (fun _ => 0), bA Γ (m 6) 3 (fun _ => 0), bA Γ (m 7) 150 (fun _ => 0), bA Γ (m 8) 350 (fun _ => 0), bA Γ (m 9) 6 (fun _ => 0), bA Γ (m 10) 8 (fun _ => 0)]] H) (hD : bD A [List.flatten [bTT Γ t s x (0, 0, 0), bKd Γ k, (bSt Γ s c y p 0 ++ bCo Γ c k (co0 6 coD) ++ bTs Γ c k trD ++ bYr Γ y yr0 ++ bYr Γ (p 0) yrD ++ bYr Γ (p 1) yrD ++ bYr Γ (p 2) yrD ++ bYr Γ (p 3) yrD ++ bYr Γ (p 4) yrD ++ bYr Γ (p 5) yrD), (bSt Γ x d z p2 0 ++ bCo Γ d k (co0 6 coD) ++ bTs Γ d k trD ++ bYr Γ z yr0 ++ bYr Γ (p2 0) yrD ++ bYr Γ (p2 1) yrD ++ bYr Γ (p2 2) yrD ++ bYr Γ (p2 3) yrD ++ bYr Γ (p2 4) yrD ++ bYr Γ (p2 5) yrD), [(t 1, .inl (Γ.2 3, 2, .inr (.inr (.inr (.inr (fun _ => none))))))], bSc Γ t scD, bA Γ (t 3) 6 (fun _ => 0)], List.flatten [bMo Γ m (false, 0, 0, 0, 0, 0, 0), bA Γ (m 1) 259 bk, bA Γ (m 2) 518 (fun _ => 0), bZ Γ (m 3) 2 (fun _ => 0), bA Γ (m 4) 259 (fun _ => 0), bA Γ (m 5) 259 (fun _ => 0), bA Γ (m 6) 3 (fun _ => 0), bA Γ (m 7) 150 (fun _ => 0), bA Γ (m 8) 350 (fun _ => 0), bA Γ (m 9) 6 (fun _ => 0), bA Γ (m 10) 8 (fun _ => 0)]]) (hS : va_S A H0 H locs) : LJ Γ A H0 t m H locs := by
  have hP : bP Γ (LW Γ t m s x c k y p d z p2 (0, 0, 0) 0 (co0 6 coD) trD yr0 (fun _ => yrD) 0 (co0 6 coD) trD yr0 (fun _ => yrD) (fun _ => none) scD (fun _ => 0) [] [] (false, 0, 0, 0, 0, 0, 0) bk (fun _ => 0) (fun _ => 0) (fun _ => 0) (fun _ => 0) (fun _ => 0) (fun _ => 0) (fun _ => 0) (fun _ => 0) (fun _ => 0)) H := by show va_P _ _ (LW Γ t m s x c k y p d z p2 (0, 0, 0) 0 (co0 6 coD) trD yr0 (fun _ => yrD) 0 (co0 6 coD) trD yr0 (fun _ => yrD) (fun _ => none) scD (fun _ => 0) [] [] (false, 0, 0, 0, 0, 0, 0) bk (fun _ => 0) (fun _ => 0) (fun _ => 0) (fun _ => 0) (fun _ => 0) (fun _ => 0) (fun _ => 0) (fun _ => 0) (fun _ => 0)).flatten _; rw [← st_eq]; exact hP
  have hD : bD A (LW Γ t m s x c k y p d z p2 (0, 0, 0) 0 (co0 6 coD) trD yr0 (fun _ => yrD) 0 (co0 6 coD) trD yr0 (fun _ => yrD) (fun _ => none) scD (fun _ => 0) [] [] (false, 0, 0, 0, 0, 0, 0) bk (fun _ => 0) (fun _ => 0) (fun _ => 0) (fun _ => 0) (fun _ => 0) (fun _ => 0) (fun _ => 0) (fun _ => 0) (fun _ => 0)) := by show va_D _ (LW Γ t m s x c k y p d z p2 (0, 0, 0) 0 (co0 6 coD) trD yr0 (fun _ => yrD) 0 (co0 6 coD) trD yr0 (fun _ => yrD) (fun _ => none) scD (fun _ => 0) [] [] (false, 0, 0, 0, 0, 0, 0) bk (fun _ => 0) (fun _ => 0) (fun _ => 0) (fun _ => 0) (fun _ => 0) (fun _ => 0) (fun _ => 0) (fun _ => 0) (fun _ => 0)).flatten; rw [← st_eq]; exact hD
  exact ⟨s, x, c, k, y, p, d, z, p2, (0, 0, 0), 0, (co0 6 coD), trD, yr0, (fun _ => yrD), 0, (co0 6 coD), trD, yr0, (fun _ => yrD), (fun _ => none), scD, (fun _ => 0), [], [], (false, 0, 0, 0, 0, 0, 0), bk, (fun _ => 0), (fun _ => 0), (fun _ => 0), (fun _ => 0), (fun _ => 0), (fun _ => 0), (fun _ => 0), (fun _ => 0), (fun _ => 0), ⟨⟨ia_0 ⟨by decide, by decide⟩ kt_D, by decide, fun q hq => absurd hq (Nat.not_lt_zero _)⟩, hr, ⟨show (6 : Nat) ≤ 8 by decide, show (0 : Nat) ≤ 6 by decide, fun i _ => show (0 : Nat) < 6 by decide⟩, ⟨rfl, rfl, show (0 : Nat) ≤ 150 by decide, rfl⟩, ⟨rfl, rfl, rfl⟩, Or.inl ⟨rfl, rfl, rfl⟩, Or.inl ⟨rfl, rfl, rfl⟩⟩, hP, hD, hS⟩

set_option maxHeartbeats 4000000 in
set_option maxRecDepth 100000 in
theorem whole_start {p : Program} {e : Env} {s : State} {m : MethodId} {below : List Frame} {meth : Method} {c : Code} (l : Launch) {b L : Nat} {xs : Nat → Int32} (hL : L ≤ 448) (C0 : lw_At p s m meth c b L xs) : W p l e room_1 s m #[Value.ref b] below meth c s.heap [] 0 0 (lw_Z below #[Value.ref b] s) (entryFrame m ([Value.ref b] : List Value).toArray 4) := by
  obtain ⟨hx, hb, hr, hml, hown, hts, hX, hbl, hlocks, hgv⟩ := id C0
  obtain ⟨Γ, hG⟩ := amb_ex hts
  obtain ⟨K, hLT⟩ := lt_ex hts hgv
  have XX : Cx p s m #[Value.ref b] c cL_law 4 RL Γ := ⟨hx, hb, hml, hown, fun w hw => hts w (all_tbl hw), hG⟩
  have hA : ∀ q : Nat, s.heap.size ≤ q → (fun q : Nat => s.heap.size ≤ q) q := fun _ h => h
  have hbA : ¬ (fun q : Nat => s.heap.size ≤ q) b := Nat.not_le.mpr hbl
  have hS : va_S (fun q : Nat => s.heap.size ≤ q) s.heap s.heap [] := va_S.rf
  have hP : bP Γ [] s.heap := fun k q h => absurd h (by simp)
  have hD : bD (fun q : Nat => s.heap.size ≤ q) [] := ⟨fun i j p q h => absurd h (by simp), fun k q h => absurd h (by simp)⟩
  have hl := lv_entry ([.ref b]) (n := 4) (Nat.le_of_ble_eq_true rfl)
  rw [lg_entry_eq]
  generalize (lg_sl ([.ref b]) ++ List.replicate (4 - (lg_sl ([.ref b])).length) Slot.unset).toArray = ls at hl ⊢
  have hl : lv_has ls 4 [(0, .ref b)] := hl
  refine g_new (fs := [.null, .null, .null, .null, .null, .int 0, .int 0, .int 0]) XX hP hD hS hA 11 rfl iwX11 tyX11_ok cl_L_7 it_X11 in_X11 (fun j hj => by rcases (show j = 0 ∨ j = 1 ∨ j = 2 ∨ j = 3 ∨ j = 4 ∨ j = 5 ∨ j = 6 ∨ j = 7 by omega) with rfl | rfl | rfl | rfl | rfl | rfl | rfl | rfl <;> rfl) (by decide) (by decide) dL_law_0 (fun q0 H hP hD hS => ?_)
  have hP : bP Γ [[(q0, .inr (11, [.null, .null, .null, .null, .null, .int 0, .int 0, .int 0]))]] H := hP
  have hD : bD (fun q : Nat => s.heap.size ≤ q) [[(q0, .inr (11, [.null, .null, .null, .null, .null, .int 0, .int 0, .int 0]))]] := hD
  refine lv_dup hx hb dL_law_3 rfl ?_
  refine call_Iv (As := []) (rest := [.ref q0]) XX ci_L_9 (c_X11_init Γ l q0) hP hD hS hA [0] (by decide) rfl (fun _ => rfl) rfl hl.1 rfl ⟨⟨by decide, by decide⟩, by decide, by decide⟩ (Nat.le_of_ble_eq_true rfl) dL_law_4 (fun u H locs hw hP hD hS => ?_)
  obtain ⟨t, s1, x1, c1, y1, p1, d1, z1, p3, k1⟩ := u
  have hw : q0 = t 0 := hw
  subst hw
  have hP : bP Γ [List.flatten [bTT Γ t s1 x1 (0, 0, 0), bKd Γ k1, (bSt Γ s1 c1 y1 p1 0 ++ bCo Γ c1 k1 (co0 6 coD) ++ bTs Γ c1 k1 trD ++ bYr Γ y1 yr0 ++ bYr Γ (p1 0) yrD ++ bYr Γ (p1 1) yrD ++ bYr Γ (p1 2) yrD ++ bYr Γ (p1 3) yrD ++ bYr Γ (p1 4) yrD ++ bYr Γ (p1 5) yrD), (bSt Γ x1 d1 z1 p3 0 ++ bCo Γ d1 k1 (co0 6 coD) ++ bTs Γ d1 k1 trD ++ bYr Γ z1 yr0 ++ bYr Γ (p3 0) yrD ++ bYr Γ (p3 1) yrD ++ bYr Γ (p3 2) yrD ++ bYr Γ (p3 3) yrD ++ bYr Γ (p3 4) yrD ++ bYr Γ (p3 5) yrD), [(t 1, .inl (Γ.2 3, 2, .inr (.inr (.inr (.inr (fun _ => none))))))], bSc Γ t scD, bA Γ (t 3) 6 (fun _ => 0)]] H := hP
  have hD : bD (fun q : Nat => s.heap.size ≤ q) [List.flatten [bTT Γ t s1 x1 (0, 0, 0), bKd Γ k1, (bSt Γ s1 c1 y1 p1 0 ++ bCo Γ c1 k1 (co0 6 coD) ++ bTs Γ c1 k1 trD ++ bYr Γ y1 yr0 ++ bYr Γ (p1 0) yrD ++ bYr Γ (p1 1) yrD ++ bYr Γ (p1 2) yrD ++ bYr Γ (p1 3) yrD ++ bYr Γ (p1 4) yrD ++ bYr Γ (p1 5) yrD), (bSt Γ x1 d1 z1 p3 0 ++ bCo Γ d1 k1 (co0 6 coD) ++ bTs Γ d1 k1 trD ++ bYr Γ z1 yr0 ++ bYr Γ (p3 0) yrD ++ bYr Γ (p3 1) yrD ++ bYr Γ (p3 2) yrD ++ bYr Γ (p3 3) yrD ++ bYr Γ (p3 4) yrD ++ bYr Γ (p3 5) yrD), [(t 1, .inl (Γ.2 3, 2, .inr (.inr (.inr (.inr (fun _ => none))))))], bSc Γ t scD, bA Γ (t 3) 6 (fun _ => 0)]] := hD
  obtain ⟨F1, eF⟩ : ∃ F, F = List.flatten [bTT Γ t s1 x1 (0, 0, 0), bKd Γ k1, (bSt Γ s1 c1 y1 p1 0 ++ bCo Γ c1 k1 (co0 6 coD) ++ bTs Γ c1 k1 trD ++ bYr Γ y1 yr0 ++ bYr Γ (p1 0) yrD ++ bYr Γ (p1 1) yrD ++ bYr Γ (p1 2) yrD ++ bYr Γ (p1 3) yrD ++ bYr Γ (p1 4) yrD ++ bYr Γ (p1 5) yrD), (bSt Γ x1 d1 z1 p3 0 ++ bCo Γ d1 k1 (co0 6 coD) ++ bTs Γ d1 k1 trD ++ bYr Γ z1 yr0 ++ bYr Γ (p3 0) yrD ++ bYr Γ (p3 1) yrD ++ bYr Γ (p3 2) yrD ++ bYr Γ (p3 3) yrD ++ bYr Γ (p3 4) yrD ++ bYr Γ (p3 5) yrD), [(t 1, .inl (Γ.2 3, 2, .inr (.inr (.inr (.inr (fun _ => none))))))], bSc Γ t scD, bA Γ (t 3) 6 (fun _ => 0)] := ⟨_, rfl⟩
  rw [← eF] at hP hD
  refine lv_astore_n (lv' := [(1, .ref (t 0)), (0, .ref b)]) hx hb dL_law_7 rfl hl (by decide) rfl (fun ls hl => ?_)
  refine g_new (fs := [.null, .null, .null, .null, .null, .null, .int 0, .null, .int 0, .int 0, .int 0, .int 0, .int 0, .null, .int 0, .null, .null]) XX hP hD hS hA 12 rfl iwX12 tyX12_ok cl_L_10 it_X12 in_X12 (fun j hj => by rcases (show j = 0 ∨ j = 1 ∨ j = 2 ∨ j = 3 ∨ j = 4 ∨ j = 5 ∨ j = 6 ∨ j = 7 ∨ j = 8 ∨ j = 9 ∨ j = 10 ∨ j = 11 ∨ j = 12 ∨ j = 13 ∨ j = 14 ∨ j = 15 ∨ j = 16 by omega) with rfl | rfl | rfl | rfl | rfl | rfl | rfl | rfl | rfl | rfl | rfl | rfl | rfl | rfl | rfl | rfl | rfl <;> rfl) (by decide) (by decide) dL_law_8 (fun q1 H hP hD hS => ?_)
  have hP : bP Γ [F1, [(q1, .inr (12, [.null, .null, .null, .null, .null, .null, .int 0, .null, .int 0, .int 0, .int 0, .int 0, .int 0, .null, .int 0, .null, .null]))]] H := hP
  have hD : bD (fun q : Nat => s.heap.size ≤ q) [F1, [(q1, .inr (12, [.null, .null, .null, .null, .null, .null, .int 0, .null, .int 0, .int 0, .int 0, .int 0, .int 0, .null, .int 0, .null, .null]))]] := hD
  refine lv_dup hx hb dL_law_11 rfl ?_
  refine call_Iv (As := []) (rest := [.ref q1]) XX ci_L_12 (c_X12_init Γ l q1) hP hD hS hA [1] (by decide) rfl (fun _ => rfl) rfl hl.1 rfl ⟨⟨by decide, by decide⟩, by decide, by decide⟩ (Nat.le_of_ble_eq_true rfl) dL_law_12 (fun u H locs hw hP hD hS => ?_)
  obtain ⟨mo, bk⟩ := u
  obtain ⟨hw, hrel⟩ := hw
  have hw : q1 = mo 0 := hw
  subst hw
  have hP : bP Γ [F1, List.flatten [bMo Γ mo (false, 0, 0, 0, 0, 0, 0), bA Γ (mo 1) 259 bk, bA Γ (mo 2) 518 (fun _ => 0), bZ Γ (mo 3) 2 (fun _ => 0), bA Γ (mo 4) 259 (fun _ => 0), bA Γ (mo 5) 259 (fun _ => 0), bA Γ (mo 6) 3 (fun _ => 0), bA Γ (mo 7) 150 (fun _ => 0), bA Γ (mo 8) 350 (fun _ => 0), bA Γ (mo 9) 6 (fun _ => 0), bA Γ (mo 10) 8 (fun _ => 0)]] H := hP
  have hD : bD (fun q : Nat => s.heap.size ≤ q) [F1, List.flatten [bMo Γ mo (false, 0, 0, 0, 0, 0, 0), bA Γ (mo 1) 259 bk, bA Γ (mo 2) 518 (fun _ => 0), bZ Γ (mo 3) 2 (fun _ => 0), bA Γ (mo 4) 259 (fun _ => 0), bA Γ (mo 5) 259 (fun _ => 0), bA Γ (mo 6) 3 (fun _ => 0), bA Γ (mo 7) 150 (fun _ => 0), bA Γ (mo 8) 350 (fun _ => 0), bA Γ (mo 9) 6 (fun _ => 0), bA Γ (mo 10) 8 (fun _ => 0)]] := hD
  rw [eF] at hP hD
  have hJ : LJ Γ (fun q : Nat => s.heap.size ≤ q) s.heap t mo H locs := st_lj hrel hP hD hS
  refine lv_astore_n (lv' := [(2, .ref (mo 0)), (1, .ref (t 0)), (0, .ref b)]) hx hb dL_law_15 rfl hl (by decide) rfl (fun ls hl => ?_)
  refine lv_iconst (v := nI (7 * 0)) hx hb dL_law_16 (by decide) ?_
  refine lv_istore_n (lv' := [(3, .int (nI (7 * 0))), (2, .ref (mo 0)), (1, .ref (t 0)), (0, .ref b)]) hx hb dL_law_17 rfl hl (by decide) rfl (fun ls hl => ?_)
  refine W.widen (k := 200 + 38 * 0) (n := 5000 + 274 * 0) (by omega) (by omega) ?_
  refine law_loop (t := t) (m := mo) Γ l XX hLT hX hbl hbA hA hL (fun H locs ls cells slots h1 h2 hS => ?_) 65 0 rfl _ _ ls hJ (lv_sub hl [3, 2, 1, 0] rfl)
  refine lv_iconst (v := 1) hx hb dL_law_1262 (by decide) ?_
  refine va_forget (fun q hq => hS.2.2 q hq) ?_
  refine W.widen (k := 600000) (n := 7302250) (by omega) (by omega) ?_
  exact lw_ret hx hb hr hlocks dL_law_1263
