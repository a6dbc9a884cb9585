section KitO
variable {p : Program} {l : Launch} {e : Env} {R : Room} {s : State} {m : MethodId} {args : Array Value} {below : List Frame} {meth : Method} {c : Code} {H : Heap} {locs : List Loc} {cells slots : Nat} {Q : State → Prop}
  {cc : ByteArray} {nL pc : Nat} {own : String} {Γ : GG} {ls : Array Slot} {rest : List Value} {A : Nat → Prop} {bs : BW}
theorem g_aaldO (X : Cx p s m args c cc nL own Γ) (hP : bP Γ bs H) (k j t0 : Nat) {blk : va_W} (hk : bs[k]? = some blk) {a n : Nat} {f : Nat → Option Nat} {cA : ClassId} {Cn : String} (hj : blk[j]? = some (a, .inl (cA, n, .inr (.inr (.inr (.inr f)))))) (ht : (tyl Γ.2)[t0]? = some (cA, .object Cn)) {i : Nat} (hin : i < n) (hn : n < 1000) (hv : f i = none) (hdg : decode cc pc = .ok (.aaload, 1))
    (kk : W p l e R s m args below meth c H locs cells slots Q (F0 m (pc + 1) ls (.null :: rest))) : W p l e R s m args below meth c H locs cells slots Q (F0 m pc ls (.int (nI i) :: .ref a :: rest)) := by
  obtain ⟨hx, hb, hml, hown, hts, hK⟩ := X
  obtain ⟨q, hi, -⟩ := bl_at hk hj
  refine va_aldq hx hb hK.1 hP q t0 hi ht (vp_in_nI hin (by omega)) hdg ?_
  rw [nI_clamp (by omega), hv]
  exact kk
end KitO
