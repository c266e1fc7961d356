/-! constructors: the world grows by new cells -/
abbrev ji_E (G : va_G) (A : Nat → Prop) (Ok : va_W → List (ClassId × FieldType) → Prop) : Array Value → State → Outcome → State → Prop := fun _ st oc t =>
  (∃ (ws' : va_W) (tys' : List (ClassId × FieldType)), oc = .returned none ∧ Ok ws' tys' ∧ va_P G jcl ws' t.heap ∧ va_K G jcl tys' t ∧ va_D A ws') ∧ va_F A st t
def ji (l : Launch) (y : MethodName) (cw : Cond) (rm : Room) (X : State → Prop) (G : va_G) (tys : List (ClassId × FieldType)) (ws : va_W) (As : List Value) (Ok : va_W → List (ClassId × FieldType) → Prop) : Prop :=
  ∀ sz : Nat, Met l y (cw :: jb) rm (va_Pc As (fun U => U.heap.size = sz ∧ va_P G jcl ws U.heap ∧ va_K G jcl tys U ∧ va_D (fun _ => True) ws ∧ X U)) (ji_E G (va_A ws sz) Ok) rm.cells rm.slots (va_A ws sz)
abbrev ji_Q (below : List Frame) (rm : Room) (G : va_G) (A : Nat → Prop) (As : List Value) (s : State) (Ok : va_W → List (ClassId × FieldType) → Prop) : State → Prop := MQ below (ji_E G A Ok) As.toArray s rm.cells rm.slots A
theorem ji_of {l : Launch} {y : MethodName} {cc : ByteArray} {nL : Nat} {rm : Room} {X : State → Prop} {G : va_G} {tys : List (ClassId × FieldType)} {ws : va_W} {As : List Value} {Ok : va_W → List (ClassId × FieldType) → Prop}
    (hy : plainName y.cls = true) (hi : y.name = "<init>") (hn : (lg_sl As).length ≤ nL)
    (body : ∀ (p : Program) (e : Env) (s : State) (m : MethodId) (below : List Frame) (meth : Method) (c : Code) (ls : Array Slot) (A : Nat → Prop), (∀ q : Nat, s.heap.size ≤ q → A q) → jx p s m As.toArray meth c y.cls cc nL none → meth.name = "<init>" → X s → va_P G jcl ws s.heap → va_K G jcl tys s → va_D A ws → va_S A s.heap s.heap [] → lv_has ls nL (lv_args 0 As) →
      W p l e rm s m As.toArray below meth c s.heap [] 0 0 (ji_Q below rm G A As s Ok) (F0 m 0 ls [])) : ji l y (.code y cc nL none) rm X G tys ws As Ok := by
  intro sz
  refine Met.ofW (cc := cc) (maxL := nL) (ret := none) hy rfl ?_
  intro p e s m args below meth c s₁ B hml hv
  obtain ⟨rfl, hsz, hP, hK, hD0, hX⟩ := hv
  subst hsz
  have hD := hD0.self (sz := s.heap.size)
  have hts := atoms_spec (ws := Cond.code y cc nL none :: jb) B.pre
  have hl := lv_entry As (n := nL) hn
  have hin : meth.name = "<init>" := (name_of_methodNamed B.named B.method).1.trans hi
  rw [lg_entry_eq]
  exact body p e s m below meth c _ (va_A ws s.heap.size) (fun q h => Or.inr h) ⟨B.exec, B.bytes, hml, findClass_of_methodNamed B.named, fun w h => hts w (List.mem_cons_of_mem _ h), B.returns, B.notSynchronized⟩ hin hX hP hK hD va_S.rf hl
section JI
variable {p : Program} {l : Launch} {e : Env} {R : Room} {s : State} {m : MethodId} {args : Array Value} {below : List Frame} {meth : Method} {c : Code} {H H0 : Heap} {locs : List Loc} {cells slots : Nat} {Q : State → Prop}
variable {cc : ByteArray} {pc nL : Nat} {ls : Array Slot} {rest st : List Value} {own : String} {ret : Option FieldType} {G : va_G} {tys : List (ClassId × FieldType)} {A : Nat → Prop} {ws' : va_W} {As : List Value} {rm : Room} {Ok : va_W → List (ClassId × FieldType) → Prop} {X : State → Prop}
theorem ji_retv (C : jx p s m As.toArray meth c own cc nL none) (ho : Ok ws' tys) (hP : va_P G jcl ws' H) (hD : va_D A ws') (hK : va_K G jcl tys s) (hS : va_S A s.heap H locs) (hc : cells ≤ rm.cells ∧ slots ≤ rm.slots) (hd : decode cc pc = .ok (.return_, 1)) : W p l e R s m As.toArray below meth c H locs cells slots (ji_Q below rm G A As s Ok) (F0 m pc ls []) :=
  W.widen hc.1 hc.2 (W.vret C.1 C.2.1 C.2.2.2.2.2.1 (fun t ht hW => ⟨⟨ws', tys, rfl, ho, by rw [ht]; exact hP, va_K.moved hW.alike hK, hD⟩, hS.F ht⟩) hS.2.2 hd C.2.2.2.2.2.2)
/-- behind a constructor's call; what the tables said of the caller's own arrays is kept beside -/
theorem ji_back {wc wr : va_W} {a : Array Value}
    (hr : va_Run p l e R s m args below meth c H locs cells slots rm.cells rm.slots (F0 m pc ls st) rest (ji_E G (va_A wc H.size) Ok a) (va_A wc H.size))
    (hP : va_P G jcl (wc ++ wr) H) (hD : va_D A (wc ++ wr)) (hS : va_S A H0 H locs) (hA : ∀ q, H0.size ≤ q → A q)
    (kk : ∀ (w1 : va_W) (tys1 : List (ClassId × FieldType)) (H1 : Heap) (locs1 : List Loc), Ok w1 tys1 → va_K G jcl tys1 s → va_P G jcl (w1 ++ wr) H1 → va_D A (w1 ++ wr) → va_S A H0 H1 locs1 → W p l e R s m args below meth c H1 locs1 (cells + rm.cells) (slots + rm.slots) Q (F0 m (pc + 3) ls rest)) : W p l e R s m args below meth c H locs cells slots Q (F0 m pc ls st) := by
  have hF : ∀ q, va_A wc H.size q → A q := by
    intro q h
    rcases h with ⟨k, e, h⟩ | h
    · exact (jw_leftD hD).2 k (q, e) h
    · exact hA q (Nat.le_trans hS.1 h)
  intro T hT X
  obtain ⟨v, st₀, t, T', L, h0, X', hL, e1, e2, ⟨⟨w1, tys1, hv, ho, hb, hk1, hb2⟩, hz, hk⟩, sg⟩ := hr T hT X
  cases hv
  rw [h0] at hz hk
  rw [← e1] at hb hz hk
  obtain ⟨hP1, hD1⟩ := jw_join hP hD hk hF hb hb2
  have hW : s.vm.Alike t.vm := by rw [← e2]; exact X'.warmed.alike
  obtain ⟨t2, a1, b1⟩ := kk w1 tys1 T'.heap (locs ++ L) ho (va_K.moved (u := t) (U := s) hW.symm hk1) hP1 hD1
    ⟨Nat.le_trans hS.1 hz, fun q h1 h2 => by rw [hk q (Nat.lt_of_lt_of_le h1 hS.1) (fun z => h2 (hF q z))]; exact hS.2.1 q h1 h2, fun q hq => by
      rcases List.mem_append.mp hq with h | h
      · exact hS.2.2 q h
      · exact hF _ (hL q h)⟩ T' rfl X'
  exact ⟨t2, sg t2 a1, b1⟩
theorem ji_callI {index : Nat} {y : MethodName} {bytes : ByteArray} {maxL n : Nat} {tys' : List (ClassId × FieldType)} {wc wr : va_W} {b : Addr} {Bs : List Value}
    (C : jx p s m args meth c own cc nL ret) (hM : ji l y (.code y bytes maxL none) rm X G tys' wc (.ref b :: Bs) Ok) (kl : jc_I own index y bytes maxL n)
    (hX : (∀ (a : Array Value) (U : State) (g : JFrame) (mk : MethodId), X U → X (U.calling g mk a)) ∧ ∀ U : State, s.WarmedH U.vm → U.heap = H → X U)
    (hR : rm.frames + 1 ≤ R.frames ∧ 8 + (maxL + 11) + rm.locals ≤ R.locals) (hc : cells + rm.cells ≤ R.cells ∧ slots + rm.slots ≤ R.slots)
    (hP : va_P G jcl (wc ++ wr) H) (hD : va_D A (wc ++ wr)) (hS : va_S A H0 H locs) (hA : ∀ q, H0.size ≤ q → A q) (hK : va_K G jcl tys' s)
    (hl : ls.size = nL) (hn : Bs.length = n) (hst : st = Bs.reverse ++ .ref b :: rest) (hw : (rest.map fun v => v.category).sum ≤ 8) (hd : decode cc pc = .ok (.invokespecial index, 3))
    (kk : ∀ (w1 : va_W) (tys1 : List (ClassId × FieldType)) (H1 : Heap) (locs1 : List Loc), Ok w1 tys1 → va_K G jcl tys1 s → va_P G jcl (w1 ++ wr) H1 → va_D A (w1 ++ wr) → va_S A H0 H1 locs1 → W p l e R s m args below meth c H1 locs1 (cells + rm.cells) (slots + rm.slots) Q (F0 m (pc + 3) ls rest)) : W p l e R s m args below meth c H locs cells slots Q (F0 m pc ls st) := by
  obtain ⟨k1, k2, k4, k5, k7, k6⟩ := kl
  refine ji_back (rm := rm) (a := (Value.ref b :: Bs).toArray) (va_runI (As := Bs) (rest := rest) (Ts := jb) ⟨C.1, C.2.1, C.2.2.1, C.2.2.2.1, C.2.2.2.2.1⟩ (hM H.size)
    ⟨⟨rfl, rfl, hR.1, hR.2, ?_, List.mem_cons_self, C.2.2.2.2.1 _ k5, C.2.2.2.2.1 _ k4, ⟨k6.1, k6.2.1⟩, fun sig h => ?_, C.2.2.2.2.1 _ k1⟩, k7, C.2.2.2.2.1 _ k2⟩
    ⟨fun a U g mk q => ⟨q.1, q.2.1, q.2.2.1, va_K.moved (u := U) (U := U.calling g mk a) (Vm.Alike.refl U.vm) q.2.2.2.1, q.2.2.2.2.1, hX.1 a U g mk q.2.2.2.2.2⟩, fun U hU hW => ⟨rfl, by rw [hU], by rw [hU]; exact jw_left hP, va_K.moved hW.alike hK, (jw_leftD hD).weaken (fun _ _ _ _ => trivial), hX.2 U hW hU⟩⟩ rfl hn hl hst (lv_room hw) hd hc) hP hD hS hA kk
  · intro w hw a' U hW
    rcases List.mem_cons.mp hw with rfl | hw
    · exact word_at hW (good_of_word (jb_g k5)) (C.2.2.2.2.1 _ k5)
    · exact word_at hW (good_of_word (jb_g hw)) (C.2.2.2.2.1 _ hw)
  · have h9 := k6.2.2
    rw [h] at h9
    exact (Option.some.inj h9).symm
end JI
