section LAWK
variable {p : Program} {l : Launch} {e : Env} {R : Room} {s : State} {m : MethodId} {args : Array Value} {below : List Frame} {meth : Method} {c : Code} {H : Heap} {locs : List Loc} {cells slots : Nat} {Q : State → Prop} {cc : ByteArray} {nL : Nat} {own : String} {Γ : GG} {A : Nat → Prop} {H0 : Heap} {b L : Nat} {xs : Nat → Int32} {ls : Array Slot} {rest : List Value} {pc : Nat} {v1 v2 : Value} {i : Nat}
theorem lg_in {n : Nat} (h : n < L) (hL : L < 2 ^ 31) : vp_in (nI n) L := by
  unfold vp_in
  rw [nI_clamp (show n < 2 ^ 31 by omega)]
  exact fun q => q.elim (fun z => nI_pos (show n < 2 ^ 31 by omega) z) (fun z => absurd z (by omega))
/-- one int of the call that the script asks for -/
theorem lg_arg (k : Nat) {k0 : Int} (XX : Cx p s m args c cc nL own Γ) (hX : va_X b L xs s H0) (hbl : b < H0.size) (hbA : ¬ A b) (hS : va_S A H0 H locs) (hl : lv_has ls 4 [(0, .ref b), (1, v1), (2, v2), (3, .int (nI i))]) (hi : i + k < L) (hL : L < 2 ^ 31)
    (d0 : decode cc pc = .ok (.aload_n 0, 1)) (d1 : decode cc (pc + 1) = .ok (.iload_n 3, 1)) (d2 : decode cc (pc + 2) = .ok (.iconst k0, 1)) (hk : Int32.ofInt k0 = nI k) (d3 : decode cc (pc + 3) = .ok (.iadd, 1)) (d4 : decode cc (pc + 4) = .ok (.iaload, 1))
    (kk : W p l e R s m args below meth c H locs cells slots Q (F0 m (pc + 5) ls (.int (xs (i + k)) :: rest))) : W p l e R s m args below meth c H locs cells slots Q (F0 m pc ls rest) := by
  refine lv_aload_n XX.1 XX.2.1 d0 rfl (lv_at hl 0 rfl) ?_
  refine lv_iload_n XX.1 XX.2.1 d1 rfl (lv_at hl 3 rfl) ?_
  refine lv_iconst XX.1 XX.2.1 d2 hk ?_
  refine lv_iadd XX.1 XX.2.1 d3 ?_
  rw [nI_add]
  refine va_sld XX.1 XX.2.1 hX hbl hbA hS (lg_in hi hL) d4 ?_
  rw [nI_clamp (show i + k < 2 ^ 31 by omega)]
  exact kk
theorem lg_arg6 (k : Nat) {k0 : Int} (XX : Cx p s m args c cc nL own Γ) (hX : va_X b L xs s H0) (hbl : b < H0.size) (hbA : ¬ A b) (hS : va_S A H0 H locs) (hl : lv_has ls 4 [(0, .ref b), (1, v1), (2, v2), (3, .int (nI i))]) (hi : i + k < L) (hL : L < 2 ^ 31)
    (d0 : decode cc pc = .ok (.aload_n 0, 1)) (d1 : decode cc (pc + 1) = .ok (.iload_n 3, 1)) (d2 : decode cc (pc + 2) = .ok (.bipush k0, 2)) (hk : (Int8.ofInt k0).toInt32 = nI k) (d3 : decode cc (pc + 4) = .ok (.iadd, 1)) (d4 : decode cc (pc + 5) = .ok (.iaload, 1))
    (kk : W p l e R s m args below meth c H locs cells slots Q (F0 m (pc + 6) ls (.int (xs (i + k)) :: rest))) : W p l e R s m args below meth c H locs cells slots Q (F0 m pc ls rest) := by
  refine lv_aload_n XX.1 XX.2.1 d0 rfl (lv_at hl 0 rfl) ?_
  refine lv_iload_n XX.1 XX.2.1 d1 rfl (lv_at hl 3 rfl) ?_
  refine lv_bipush XX.1 XX.2.1 d2 hk ?_
  refine lv_iadd XX.1 XX.2.1 d3 ?_
  rw [nI_add]
  refine va_sld XX.1 XX.2.1 hX hbl hbA hS (lg_in hi hL) d4 ?_
  rw [nI_clamp (show i + k < 2 ^ 31 by omega)]
  exact kk
end LAWK
