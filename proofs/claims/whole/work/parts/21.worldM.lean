abbrev wM (qM qK qZ qN qB qY qi qo qm qp : Nat) (c1 c2 c3 c4 c5 c6 c7 c8 c9 : ClassId) (K Z N B Y I O M P : Nat → Nat) (ct wr ofs th : Nat) (pa en fo : Option Nat) (la : Nat) : va_W :=
  [(qM, .inr (4, [.ref qK, .ref qZ, .ref qN, .ref qB, .ref qY, .ref qi, .ref qo, .ref qm, .ref qp, .int (nI ct), .int (nI wr), .int (nI ofs), .int (nI th), .int (jo pa), .int (jo en), .int (jo fo), .int (nI la)])),
   (qK, .inl (c1, 24, .inl (jn K))), (qZ, .inl (c2, 24, .inl (jn Z))), (qN, .inl (c3, 24, .inl (jn N))), (qB, .inl (c4, 96, .inl (jn B))), (qY, .inl (c5, 1536, .inl (jn Y))), (qi, .inl (c6, 6, .inl (jn I))), (qo, .inl (c7, 6, .inl (jn O))), (qm, .inl (c8, 6, .inl (jn M))), (qp, .inl (c9, 6, .inl (jn P)))]
abbrev tM (c1 c2 c3 c4 c5 c6 c7 c8 c9 : ClassId) : List (ClassId × FieldType) := [(c1, .int), (c2, .int), (c3, .int), (c4, .int), (c5, .int), (c6, .int), (c7, .int), (c8, .int), (c9, .int)]
section JP
variable {p : Program} {l : Launch} {e : Env} {R : Room} {s : State} {m : MethodId} {args : Array Value} {below : List Frame} {meth : Method} {c : Code} {H : Heap} {locs : List Loc} {cells slots : Nat} {Q : State → Prop}
variable {cc : ByteArray} {pc : Nat} {ls : Array Slot} {rest : List Value}
theorem jl_ifltO (hx : p.tables.exec = Jvm.exec) (hb : c.code = cc) {o : Option Nat} {off : Int} {tgt : Nat} (ho : ∀ j, o = some j → j < 2 ^ 31) (hd : decode cc pc = .ok (.ifCond .lt off, 3)) (ht : (pc : Int) + off = (tgt : Int)) (kt : o = none → W p l e R s m args below meth c H locs cells slots Q (F0 m tgt ls rest)) (kf : ∀ j, o = some j → W p l e R s m args below meth c H locs cells slots Q (F0 m (pc + 3) ls rest)) : W p l e R s m args below meth c H locs cells slots Q (F0 m pc ls (.int (jo o) :: rest)) := by
  cases o with
  | none => exact lv_if_lt hx hb hd ht (fun _ => kt rfl) (fun h => absurd (by decide : (-1 : Int32) < 0) h)
  | some j => exact jl_iflt hx hb (ho j rfl) hd ht (kf j rfl)
theorem jl_ifgeO (hx : p.tables.exec = Jvm.exec) (hb : c.code = cc) {o : Option Nat} {off : Int} {tgt : Nat} (ho : ∀ j, o = some j → j < 2 ^ 31) (hd : decode cc pc = .ok (.ifCond .ge off, 3)) (ht : (pc : Int) + off = (tgt : Int)) (kt : ∀ j, o = some j → W p l e R s m args below meth c H locs cells slots Q (F0 m tgt ls rest)) (kf : o = none → W p l e R s m args below meth c H locs cells slots Q (F0 m (pc + 3) ls rest)) : W p l e R s m args below meth c H locs cells slots Q (F0 m pc ls (.int (jo o) :: rest)) := by
  cases o with
  | none => exact lv_if_ge hx hb hd ht (fun h => absurd h (by decide : ¬ (0 : Int32) ≤ -1)) (fun _ => kf rfl)
  | some j => exact jl_ifge hx hb (ho j rfl) hd ht (kt j rfl)
theorem jl_ifltN (hx : p.tables.exec = Jvm.exec) (hb : c.code = cc) {off : Int} {tgt : Nat} (hd : decode cc pc = .ok (.ifCond .lt off, 3)) (ht : (pc : Int) + off = (tgt : Int)) (kt : W p l e R s m args below meth c H locs cells slots Q (F0 m tgt ls rest)) : W p l e R s m args below meth c H locs cells slots Q (F0 m pc ls (.int (-1) :: rest)) :=
  lv_if_lt hx hb hd ht (fun _ => kt) (fun h => absurd (by decide : (-1 : Int32) < 0) h)
theorem jl_ifgeN (hx : p.tables.exec = Jvm.exec) (hb : c.code = cc) {off : Int} {tgt : Nat} (hd : decode cc pc = .ok (.ifCond .ge off, 3)) (ht : (pc : Int) + off = (tgt : Int)) (kf : W p l e R s m args below meth c H locs cells slots Q (F0 m (pc + 3) ls rest)) : W p l e R s m args below meth c H locs cells slots Q (F0 m pc ls (.int (-1) :: rest)) :=
  lv_if_ge hx hb hd ht (fun h => absurd h (by decide : ¬ (0 : Int32) ≤ -1)) (fun _ => kf)
end JP
