/-- a world in two parts: the first is handed over and comes back as w1, the rest stays -/
theorem jw_join {A0 : Nat → Prop} {D : va_G} {cl : List vw_C} {wc wr w1 : va_W} {H H1 : Heap} (hP : va_P D cl (wc ++ wr) H) (hD : va_D A0 (wc ++ wr)) (hk : ∀ q : Nat, q < H.size → ¬ va_A wc H.size q → H1[q]? = H[q]?) (hF : ∀ q, va_A wc H.size q → A0 q) (hP1 : va_P D cl w1 H1) (hD1 : va_D (va_A wc H.size) w1) : va_P D cl (w1 ++ wr) H1 ∧ va_D A0 (w1 ++ wr) := by
  have at2 : ∀ (k : Nat) (q : Nat × va_E), wr[k]? = some q → (wc ++ wr)[wc.length + k]? = some q := by
    intro k q hq
    rw [List.getElem?_append_right (Nat.le_add_right _ _), Nat.add_sub_cancel_left]
    exact hq
  have at1 : ∀ (k : Nat) (q : Nat × va_E), wc[k]? = some q → (wc ++ wr)[k]? = some q := by
    intro k q hq
    rw [List.getElem?_append_left (List.getElem?_eq_some_iff.mp hq).1]
    exact hq
  have apart : ∀ (k : Nat) (q : Nat × va_E), wr[k]? = some q → q.1 < H.size ∧ ¬ va_A wc H.size q.1 := by
    intro k q hq
    have hl := (hP _ q (at2 k q hq)).lt
    refine ⟨hl, fun h => ?_⟩
    rcases h with ⟨k2, e, h⟩ | h
    · have hij := hD.1 _ _ q (q.1, e) (at2 k q hq) (at1 k2 _ h) rfl
      have := (List.getElem?_eq_some_iff.mp h).1
      omega
    · omega
  have hDr : va_D A0 wr := ⟨fun i j p q hp hq h => by
    have := hD.1 _ _ p q (at2 i p hp) (at2 j q hq) h
    omega, fun k q hq => hD.2 _ q (at2 k q hq)⟩
  refine ⟨va_P.app hP1 (fun k q hq => ?_), va_D.app (hD1.weaken (fun k q _ h => hF q.1 h)) hDr (fun i j x y hx hy hxy => ?_)⟩
  · obtain ⟨g1, g2⟩ := apart k q hq
    exact (hP _ q (at2 k q hq)).kept (hk q.1 g1 g2)
  · exact (apart j y hy).2 (by rw [← hxy]; exact hD1.2 i x hx)
theorem jw_left {D : va_G} {cl : List vw_C} {wc wr : va_W} {H : Heap} (hP : va_P D cl (wc ++ wr) H) : va_P D cl wc H := fun k q hq => hP k q (by
  rw [List.getElem?_append_left (List.getElem?_eq_some_iff.mp hq).1]
  exact hq)
theorem jw_leftD {A : Nat → Prop} {wc wr : va_W} (hD : va_D A (wc ++ wr)) : va_D A wc := by
  have at1 : ∀ (k : Nat) (q : Nat × va_E), wc[k]? = some q → (wc ++ wr)[k]? = some q := by
    intro k q hq
    rw [List.getElem?_append_left (List.getElem?_eq_some_iff.mp hq).1]
    exact hq
  exact ⟨fun i j p q hp hq h => hD.1 i j p q (at1 i p hp) (at1 j q hq) h, fun k q hq => hD.2 k q (at1 k q hq)⟩
/-- what a method that turns the world ws into ws' and answers o ends with -/
abbrev jm_E (G : va_G) (tys : List (ClassId × FieldType)) (A : Nat → Prop) (o : Option Value) (ws' : va_W) : Array Value → State → Outcome → State → Prop := fun _ st oc t =>
  (oc = .returned o ∧ va_P G jcl ws' t.heap ∧ va_K G jcl tys t ∧ va_D A ws') ∧ va_F A st t
def jm (l : Launch) (y : MethodName) (cw : Cond) (rm : Room) (G : va_G) (tys : List (ClassId × FieldType)) (ws : va_W) (As : List Value) (o : Option Value) (ws' : va_W) : Prop :=
  ∀ sz : Nat, Met l y (cw :: jb) rm (va_Pc As (fun U => U.heap.size = sz ∧ va_P G jcl ws U.heap ∧ va_K G jcl tys U ∧ va_D (fun _ => True) ws)) (jm_E G tys (va_A ws sz) o ws') rm.cells rm.slots (va_A ws sz)
abbrev jm_Q (below : List Frame) (rm : Room) (G : va_G) (tys : List (ClassId × FieldType)) (A : Nat → Prop) (As : List Value) (s : State) (o : Option Value) (ws' : va_W) : State → Prop := MQ below (jm_E G tys A o ws') As.toArray s rm.cells rm.slots A
theorem jm_of {l : Launch} {y : MethodName} {cc : ByteArray} {nL : Nat} {ret : Option FieldType} {rm : Room} {G : va_G} {tys : List (ClassId × FieldType)} {ws ws' : va_W} {As : List Value} {o : Option Value}
    (hy : plainName y.cls = true) (hn : (lg_sl As).length ≤ nL)
    (body : ∀ (p : Program) (e : Env) (s : State) (m : MethodId) (below : List Frame) (meth : Method) (c : Code) (ls : Array Slot) (A : Nat → Prop), (∀ q : Nat, s.heap.size ≤ q → A q) → jx p s m As.toArray meth c y.cls cc nL ret → va_P G jcl ws s.heap → va_K G jcl tys s → va_D A ws → va_S A s.heap s.heap [] → lv_has ls nL (lv_args 0 As) →
      W p l e rm s m As.toArray below meth c s.heap [] 0 0 (jm_Q below rm G tys A As s o ws') (F0 m 0 ls [])) : jm l y (.code y cc nL ret) rm G tys ws As o ws' := by
  intro sz
  refine Met.ofW (cc := cc) (maxL := nL) (ret := ret) hy rfl ?_
  intro p e s m args below meth c s₁ B hml hv
  obtain ⟨rfl, hsz, hP, hK, hD0⟩ := hv
  subst hsz
  have hD := hD0.self (sz := s.heap.size)
  have hts := atoms_spec (ws := Cond.code y cc nL ret :: jb) B.pre
  have hl := lv_entry As (n := nL) hn
  rw [lg_entry_eq]
  exact body p e s m below meth c _ (va_A ws s.heap.size) (fun q h => Or.inr h) ⟨B.exec, B.bytes, hml, findClass_of_methodNamed B.named, fun w h => hts w (List.mem_cons_of_mem _ h), B.returns, B.notSynchronized⟩ hP hK hD va_S.rf hl
section JM
variable {p : Program} {l : Launch} {e : Env} {R : Room} {s : State} {m : MethodId} {args : Array Value} {below : List Frame} {meth : Method} {c : Code} {H H0 : Heap} {locs : List Loc} {cells slots : Nat} {Q : State → Prop}
variable {cc : ByteArray} {pc nL : Nat} {ls : Array Slot} {rest st : List Value} {own : String} {ret : Option FieldType} {G : va_G} {tys : List (ClassId × FieldType)} {A : Nat → Prop} {ws' : va_W} {As : List Value} {rm : Room}
theorem jm_retv (C : jx p s m As.toArray meth c own cc nL none) (hP : va_P G jcl ws' H) (hD : va_D A ws') (hK : va_K G jcl tys s) (hS : va_S A s.heap H locs) (hc : cells ≤ rm.cells ∧ slots ≤ rm.slots) (hd : decode cc pc = .ok (.return_, 1)) : W p l e R s m As.toArray below meth c H locs cells slots (jm_Q below rm G tys A As s none ws') (F0 m pc ls []) :=
  W.widen hc.1 hc.2 (W.vret C.1 C.2.1 C.2.2.2.2.2.1 (fun t ht hW => ⟨⟨rfl, by rw [ht]; exact hP, va_K.moved hW.alike hK, hD⟩, hS.F ht⟩) hS.2.2 hd C.2.2.2.2.2.2)
theorem jm_reti {v w : Int32} (C : jx p s m As.toArray meth c own cc nL (some .int)) (hv : w = v) (hP : va_P G jcl ws' H) (hD : va_D A ws') (hK : va_K G jcl tys s) (hS : va_S A s.heap H locs) (hc : cells ≤ rm.cells ∧ slots ≤ rm.slots) (hd : decode cc pc = .ok (.ireturn, 1)) : W p l e R s m As.toArray below meth c H locs cells slots (jm_Q below rm G tys A As s (some (.int v)) ws') (F0 m pc ls [.int w]) :=
  W.widen hc.1 hc.2 (W.iret (v := w) C.1 C.2.1 C.2.2.2.2.2.1 (fun t ht hW => ⟨⟨by rw [hv], by rw [ht]; exact hP, va_K.moved hW.alike hK, hD⟩, hS.F ht⟩) hS.2.2 hd C.2.2.2.2.2.2)
theorem jm_retz {v w : Int32} (C : jx p s m As.toArray meth c own cc nL (some .boolean)) (hn : narrow .boolean (.int w) = .int w) (hv : w = v) (hP : va_P G jcl ws' H) (hD : va_D A ws') (hK : va_K G jcl tys s) (hS : va_S A s.heap H locs) (hc : cells ≤ rm.cells ∧ slots ≤ rm.slots) (hd : decode cc pc = .ok (.ireturn, 1)) : W p l e R s m As.toArray below meth c H locs cells slots (jm_Q below rm G tys A As s (some (.int v)) ws') (F0 m pc ls [.int w]) :=
  W.widen hc.1 hc.2 (W.zret (v := w) C.1 C.2.1 C.2.2.2.2.2.1 hn (fun t ht hW => ⟨⟨by rw [hv], by rw [ht]; exact hP, va_K.moved hW.alike hK, hD⟩, hS.F ht⟩) hS.2.2 hd C.2.2.2.2.2.2)
theorem jm_retl {v w : Int64} (C : jx p s m As.toArray meth c own cc nL (some .long)) (hv : w = v) (hP : va_P G jcl ws' H) (hD : va_D A ws') (hK : va_K G jcl tys s) (hS : va_S A s.heap H locs) (hc : cells ≤ rm.cells ∧ slots ≤ rm.slots) (hd : decode cc pc = .ok (.lreturn, 1)) : W p l e R s m As.toArray below meth c H locs cells slots (jm_Q below rm G tys A As s (some (.long v)) ws') (F0 m pc ls [.long w]) :=
  W.widen hc.1 hc.2 (W.lret (v := w) C.1 C.2.1 C.2.2.2.2.2.1 (fun t ht hW => ⟨⟨by rw [hv], by rw [ht]; exact hP, va_K.moved hW.alike hK, hD⟩, hS.F ht⟩) hS.2.2 hd C.2.2.2.2.2.2)
/-- behind such a call -/
theorem jm_back {wc wr w1 : va_W} {o : Option Value} {tys' : List (ClassId × FieldType)} {a : Array Value}
    (hr : va_Run p l e R s m args below meth c H locs cells slots rm.cells rm.slots (F0 m pc ls st) rest (jm_E G tys' (va_A wc H.size) o w1 a) (va_A wc H.size))
    (hP : va_P G jcl (wc ++ wr) H) (hD : va_D A (wc ++ wr)) (hS : va_S A H0 H locs) (hA : ∀ q, H0.size ≤ q → A q)
    (kk : ∀ (H1 : Heap) (locs1 : List Loc), va_P G jcl (w1 ++ wr) H1 → va_D A (w1 ++ wr) → va_S A H0 H1 locs1 → W p l e R s m args below meth c H1 locs1 (cells + rm.cells) (slots + rm.slots) Q (F0 m (pc + 3) ls (o.toList ++ rest))) : W p l e R s m args below meth c H locs cells slots Q (F0 m pc ls st) := by
  have hF : ∀ q, va_A wc H.size q → A q := by
    intro q h
    rcases h with ⟨k, e, h⟩ | h
    · exact (jw_leftD hD).2 k (q, e) h
    · exact hA q (Nat.le_trans hS.1 h)
  intro T hT X
  obtain ⟨v, st₀, t, T', L, h0, X', hL, e1, e2, ⟨⟨hv, hb, -, hb2⟩, hz, hk⟩, sg⟩ := hr T hT X
  cases hv
  rw [h0] at hz hk
  rw [← e1] at hb hz hk
  obtain ⟨hP1, hD1⟩ := jw_join hP hD hk hF hb hb2
  obtain ⟨t2, a1, b1⟩ := kk T'.heap (locs ++ L) hP1 hD1
    ⟨Nat.le_trans hS.1 hz, fun q h1 h2 => by rw [hk q (Nat.lt_of_lt_of_le h1 hS.1) (fun z => h2 (hF q z))]; exact hS.2.1 q h1 h2, fun q hq => by
      rcases List.mem_append.mp hq with h | h
      · exact hS.2.2 q h
      · exact hF _ (hL q h)⟩ T' rfl X'
  exact ⟨t2, sg t2 a1, b1⟩
theorem jm_callV {index : Nat} {y : MethodName} {bytes : ByteArray} {maxL n : Nat} {rt : Option FieldType} {tys' : List (ClassId × FieldType)} {wc wr w1 : va_W} {b : Addr} {Bs : List Value} {o : Option Value}
    (C : jx p s m args meth c own cc nL ret) (hM : jm l y (.code y bytes maxL rt) rm G tys' wc (.ref b :: Bs) o w1) (kl : jc_V own index y bytes maxL rt n)
    (hR : rm.frames + 1 ≤ R.frames ∧ 8 + (maxL + 11) + rm.locals ≤ R.locals) (hc : cells + rm.cells ≤ R.cells ∧ slots + rm.slots ≤ R.slots)
    (hP : va_P G jcl (wc ++ wr) H) (hD : va_D A (wc ++ wr)) (hS : va_S A H0 H locs) (hA : ∀ q, H0.size ≤ q → A q) (hK : va_K G jcl tys' s) (hv : ∃ cell : Cell, H[b]? = some cell ∧ cell.vm.isStatics = false ∧ s.vm.findClass y.cls = some cell.cls)
    (hl : ls.size = nL) (hn : Bs.length = n) (hst : st = Bs.reverse ++ .ref b :: rest) (hw : (rest.map fun v => v.category).sum ≤ 8) (hd : decode cc pc = .ok (.invokevirtual index, 3))
    (kk : ∀ (H1 : Heap) (locs1 : List Loc), va_P G jcl (w1 ++ wr) H1 → va_D A (w1 ++ wr) → va_S A H0 H1 locs1 → W p l e R s m args below meth c H1 locs1 (cells + rm.cells) (slots + rm.slots) Q (F0 m (pc + 3) ls (o.toList ++ rest))) : W p l e R s m args below meth c H locs cells slots Q (F0 m pc ls st) := by
  obtain ⟨k1, k2, k3, k4, k5, k6⟩ := kl
  refine jm_back (rm := rm) (a := (Value.ref b :: Bs).toArray) (tys' := tys') (va_runV (As := Bs) (rest := rest) (Ts := jb) ⟨C.1, C.2.1, C.2.2.1, C.2.2.2.1, C.2.2.2.2.1⟩ (hM H.size)
    ⟨⟨rfl, rfl, hR.1, hR.2, ?_, List.mem_cons_self, C.2.2.2.2.1 _ k5, C.2.2.2.2.1 _ k4, ⟨k6.1, k6.2.1⟩, fun sig h => ?_, C.2.2.2.2.1 _ k1⟩, C.2.2.2.2.1 _ k2, C.2.2.2.2.1 _ k3⟩
    ⟨fun a U g mk q => ⟨q.1, q.2.1, q.2.2.1, va_K.moved (u := U) (U := U.calling g mk a) (Vm.Alike.refl U.vm) q.2.2.2.1, q.2.2.2.2⟩, hv, fun U hU hW => ⟨rfl, by rw [hU], by rw [hU]; exact jw_left hP, va_K.moved hW.alike hK, (jw_leftD hD).weaken (fun _ _ _ _ => trivial)⟩⟩ rfl hn hl hst (lv_room hw) hd hc) hP hD hS hA kk
  · intro w hw a' U hW
    rcases List.mem_cons.mp hw with rfl | hw
    · exact word_at hW (good_of_word (jb_g k5)) (C.2.2.2.2.1 _ k5)
    · exact word_at hW (good_of_word (jb_g hw)) (C.2.2.2.2.1 _ hw)
  · have h9 := k6.2.2
    rw [h] at h9
    exact (Option.some.inj h9).symm
end JM
