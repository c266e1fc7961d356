/-! exceptions: what a throwing method needs at hand, its contract, the throw, the call, the way out -/
abbrev jn_ex : List String := ["java/lang/RuntimeException", "java/lang/Exception"]
def jzl : List Cond := [.castable "java/lang/IllegalArgumentException" "java/lang/IllegalArgumentException", .castable "java/util/NoSuchElementException" "java/util/NoSuchElementException", .castable "java/lang/IllegalStateException" "java/lang/IllegalStateException", .castable "java/lang/UnsupportedOperationException" "java/lang/UnsupportedOperationException", .declares ⟨"java/lang/RuntimeException", "<init>", "(Ljava/lang/String;)V"⟩, .declares ⟨"java/lang/Exception", "<init>", "(Ljava/lang/String;)V"⟩, .declares ⟨"java/lang/Throwable", "<init>", "(Ljava/lang/String;)V"⟩]
def jzs : List (Nat × String) := [(234, "00 behind a name"), (49, "something is there"), (244, "no directory to be in"), (252, "no inode, entry or block is free"), (231, "out of range"), (74, "nothing is there"), (269, "no handle is closed"), (91, "of the other kind"), (103, "not open"), (277, "not open, or stale"), (113, "not a mode that writes"), (257, "above 64 bytes, or no block is free"), (136, "not a mode that reads"), (144, "a directory's handle"), (146, "a file's handle"), (242, "the path leads nowhere"), (157, "the root"), (159, "not empty"), (262, "the root, or onto or below itself"), (264, "only a file takes a file's place"), (180, "no room for the entry"), (189, "no file"), (206, "power failed")]
/-- what holds of the tables, the texts and Throwable's two statics, which no cell of A is -/
def jz (A : Nat → Prop) (U : State) (H : Heap) : Prop := (∀ w ∈ jzl, va_Nw w U) ∧ (∀ q ∈ jzs, ∃ sa, vk_R cn_J q.1 q.2 sa U) ∧ vx_Zq Bundle.tN "UNASSIGNED_STACK" Bundle.steD A U H ∧ vx_Zq Bundle.tN "SUPPRESSED_SENTINEL" Bundle.listD A U H
theorem jz_warm {A B : Nat → Prop} {s U : State} {H0 H : Heap} (h : jz A s H0) (hW : s.WarmedH U.vm) (hk : ∀ q : Nat, q < H0.size → ¬ A q → H[q]? = H0[q]?) (hAB : ∀ q, B q → A q) : jz B U H := by
  obtain ⟨h1, h2, h3, h4⟩ := h
  refine ⟨fun w hw => ?_, fun q hq => ?_, vx_Zq.narrow (vx_Zq.moved hW.alike (h3.kept hk)) hAB, vx_Zq.narrow (vx_Zq.moved hW.alike (h4.kept hk)) hAB⟩
  · have h9 := h1 w hw
    simp only [jzl, List.mem_cons, List.not_mem_nil, or_false] at hw
    rcases hw with rfl | rfl | rfl | rfl | rfl | rfl | rfl
    · exact va_Nw.warmC hW h9
    · exact va_Nw.warmC hW h9
    · exact va_Nw.warmC hW h9
    · exact va_Nw.warmC hW h9
    · exact va_Nw.warmD hW h9
    · exact va_Nw.warmD hW h9
    · exact va_Nw.warmD hW h9
  · obtain ⟨sa, hs⟩ := h2 q hq
    exact ⟨sa, vk_R.warm hW hs⟩
theorem jz_same {A : Nat → Prop} {u U : State} {H : Heap} (h : jz A u H) (hv : u.vm = U.vm) : jz A U H := by
  obtain ⟨h1, h2, h3, h4⟩ := h
  have ha : u.vm.Alike U.vm := by rw [← hv]; exact Vm.Alike.refl _
  refine ⟨fun w hw => va_Nw.same ?_ hv (h1 w hw), fun q hq => ?_, vx_Zq.moved ha h3, vx_Zq.moved ha h4⟩
  · simp only [jzl, List.mem_cons, List.not_mem_nil, or_false] at hw
    rcases hw with rfl | rfl | rfl | rfl | rfl | rfl | rfl <;> rfl
  · obtain ⟨sa, hs⟩ := h2 q hq
    exact ⟨sa, vk_R.same hv.symm hs⟩
abbrev jt_E (G : va_G) (tys : List (ClassId × FieldType)) (A : Nat → Prop) (Ok : Option Value → va_W → Prop) : Array Value → State → Outcome → State → Prop := fun _ st oc t =>
  (∃ (o : Option Value) (ws' : va_W), oc = .returned o ∧ Ok o ws' ∧ va_P G jcl ws' t.heap ∧ va_K G jcl tys t ∧ va_D A ws') ∧ va_F A st t
abbrev jt_X (G : va_G) (tys : List (ClassId × FieldType)) (A : Nat → Prop) (Ex : String → va_W → Prop) : String → State → State → Prop := fun E st t =>
  ∃ ws' : va_W, Ex E ws' ∧ va_P G jcl ws' t.heap ∧ va_K G jcl tys t ∧ va_D A ws' ∧ va_F A st t
/-- a method that answers o and leaves ws' (Ok o ws'), or throws an E and leaves ws' (Ex E ws') -/
def jt (l : Launch) (y : MethodName) (cw : Cond) (rm : Room) (G : va_G) (tys : List (ClassId × FieldType)) (ws : va_W) (As : List Value) (Ok : Option Value → va_W → Prop) (Ex : String → va_W → Prop) : Prop :=
  ∀ sz : Nat, vx_Met l y (cw :: jb) rm (va_Pc As (fun U => U.heap.size = sz ∧ va_P G jcl ws U.heap ∧ va_K G jcl tys U ∧ va_D (fun _ => True) ws ∧ jz (va_A ws sz) U U.heap)) (jt_E G tys (va_A ws sz) Ok) (jt_X G tys (va_A ws sz) Ex) rm.cells rm.slots (va_A ws sz)
abbrev jt_Q (below : List Frame) (rm : Room) (G : va_G) (tys : List (ClassId × FieldType)) (A : Nat → Prop) (As : List Value) (s : State) (Ok : Option Value → va_W → Prop) (Ex : String → va_W → Prop) : State → Prop := vx_MQ below (jt_E G tys A Ok) (jt_X G tys A Ex) As.toArray s rm.cells rm.slots A
theorem jt_of {l : Launch} {y : MethodName} {cc : ByteArray} {nL : Nat} {ret : Option FieldType} {rm : Room} {G : va_G} {tys : List (ClassId × FieldType)} {ws : va_W} {As : List Value} {Ok : Option Value → va_W → Prop} {Ex : String → va_W → Prop}
    (hy : plainName y.cls = true) (hn : (lg_sl As).length ≤ nL)
    (body : ∀ (p : Program) (e : Env) (s : State) (m : MethodId) (below : List Frame) (meth : Method) (c : Code) (ls : Array Slot) (A : Nat → Prop), (∀ q : Nat, s.heap.size ≤ q → A q) → jx p s m As.toArray meth c y.cls cc nL ret → (∀ x ∈ c.exceptionTable.toList, False) → jz A s s.heap → va_P G jcl ws s.heap → va_K G jcl tys s → va_D A ws → va_S A s.heap s.heap [] → lv_has ls nL (lv_args 0 As) →
      W p l e rm s m As.toArray below meth c s.heap [] 0 0 (jt_Q below rm G tys A As s Ok Ex) (F0 m 0 ls [])) : jt l y (.code y cc nL ret) rm G tys ws As Ok Ex := by
  intro sz
  refine vx_ofW (cc := cc) (maxL := nL) (ret := ret) hy rfl ?_
  intro p e s m args below meth c s₁ B hml htb hv
  obtain ⟨rfl, hsz, hP, hK, hD0, hz⟩ := hv
  subst hsz
  have hD := hD0.self (sz := s.heap.size)
  have hts := atoms_spec (ws := Cond.code y cc nL ret :: jb) B.pre
  have hl := lv_entry As (n := nL) hn
  rw [lg_entry_eq]
  exact body p e s m below meth c _ (va_A ws s.heap.size) (fun q h => Or.inr h) ⟨B.exec, B.bytes, hml, findClass_of_methodNamed B.named, fun w h => hts w (List.mem_cons_of_mem _ h), B.returns, B.notSynchronized⟩ htb hz hP hK hD va_S.rf hl
section JX
variable {p : Program} {l : Launch} {e : Env} {R : Room} {s : State} {m : MethodId} {args : Array Value} {below : List Frame} {meth : Method} {c : Code} {H : Heap} {locs : List Loc} {cells slots : Nat} {Q : State → Prop}
variable {cc : ByteArray} {pc nL : Nat} {ls : Array Slot} {rest st : List Value} {own : String} {ret : Option FieldType} {G : va_G} {tys : List (ClassId × FieldType)} {A : Nat → Prop} {ws' : va_W} {As : List Value} {rm : Room} {Ok : Option Value → va_W → Prop} {Ex : String → va_W → Prop}
theorem jt_retv (C : jx p s m As.toArray meth c own cc nL none) (ho : Ok none ws') (hP : va_P G jcl ws' H) (hD : va_D A ws') (hK : va_K G jcl tys s) (hS : va_S A s.heap H locs) (hc : cells ≤ rm.cells ∧ slots ≤ rm.slots) (hd : decode cc pc = .ok (.return_, 1)) : W p l e R s m As.toArray below meth c H locs cells slots (jt_Q below rm G tys A As s Ok Ex) (F0 m pc ls []) :=
  W.widen hc.1 hc.2 (vx_ret (W.vret C.1 C.2.1 C.2.2.2.2.2.1 (fun t ht hW => ⟨⟨none, ws', rfl, ho, by rw [ht]; exact hP, va_K.moved hW.alike hK, hD⟩, hS.F ht⟩) hS.2.2 hd C.2.2.2.2.2.2))
theorem jt_reti {w : Int32} (C : jx p s m As.toArray meth c own cc nL (some .int)) (ho : Ok (some (.int w)) ws') (hP : va_P G jcl ws' H) (hD : va_D A ws') (hK : va_K G jcl tys s) (hS : va_S A s.heap H locs) (hc : cells ≤ rm.cells ∧ slots ≤ rm.slots) (hd : decode cc pc = .ok (.ireturn, 1)) : W p l e R s m As.toArray below meth c H locs cells slots (jt_Q below rm G tys A As s Ok Ex) (F0 m pc ls [.int w]) :=
  W.widen hc.1 hc.2 (vx_ret (W.iret (v := w) C.1 C.2.1 C.2.2.2.2.2.1 (fun t ht hW => ⟨⟨_, ws', rfl, ho, by rw [ht]; exact hP, va_K.moved hW.alike hK, hD⟩, hS.F ht⟩) hS.2.2 hd C.2.2.2.2.2.2))
theorem jt_retl {w : Int64} (C : jx p s m As.toArray meth c own cc nL (some .long)) (ho : Ok (some (.long w)) ws') (hP : va_P G jcl ws' H) (hD : va_D A ws') (hK : va_K G jcl tys s) (hS : va_S A s.heap H locs) (hc : cells ≤ rm.cells ∧ slots ≤ rm.slots) (hd : decode cc pc = .ok (.lreturn, 1)) : W p l e R s m As.toArray below meth c H locs cells slots (jt_Q below rm G tys A As s Ok Ex) (F0 m pc ls [.long w]) :=
  W.widen hc.1 hc.2 (vx_ret (W.lret (v := w) C.1 C.2.1 C.2.2.2.2.2.1 (fun t ht hW => ⟨⟨_, ws', rfl, ho, by rw [ht]; exact hP, va_K.moved hW.alike hK, hD⟩, hS.F ht⟩) hS.2.2 hd C.2.2.2.2.2.2))
/-- a throw that goes on to the caller -/
theorem jt_out {E : String} {ce : Cell} {q : Addr} (htb : ∀ x ∈ c.exceptionTable.toList, False) (C : jx p s m As.toArray meth c own cc nL ret) (ho : Ex E ws') (hP : va_P G jcl ws' H) (hD : va_D A ws') (hK : va_K G jcl tys s) (hS : va_S A s.heap H locs) (hc : cells ≤ rm.cells ∧ slots ≤ rm.slots) (hcell : H[q]? = some ce) (hv : ce.vm = .none) (hcl : s.vm.findClass E = some ce.cls) :
    vx_W p l e R s m As.toArray below meth c H locs cells slots (jt_Q below rm G tys A As s Ok Ex) (F0 m pc ls rest) q :=
  vx_out (fun x hx => (htb x hx).elim) C.2.2.2.2.2.2 hcell hv hcl (fun t ht ha => ⟨ws', ho, by rw [ht]; exact hP, va_K.moved ha hK, hD, hS.F ht⟩) hS.2.2 hc.1 hc.2
/-- behind a call that may throw -/
theorem jt_back {wc wr : va_W} {Ok' : Option Value → va_W → Prop} {Ex' : String → va_W → Prop} {tys' : List (ClassId × FieldType)} {a : Array Value}
    (hr : vx_Run p l e R s m args below meth c H locs cells slots rm.cells rm.slots (F0 m pc ls st) rest (jt_E G tys' (va_A wc H.size) Ok' a) (jt_X G tys' (va_A wc H.size) Ex') (va_A wc H.size))
    (hP : va_P G jcl (wc ++ wr) H) (hD : va_D A (wc ++ wr)) (hS : va_S A s.heap H locs) (hA : ∀ q, s.heap.size ≤ q → A q)
    (kx : ∀ (E : String) (w1 : va_W) (H1 : Heap) (locs1 : List Loc) (q : Addr) (ce : Cell), Ex' E w1 → va_P G jcl (w1 ++ wr) H1 → va_D A (w1 ++ wr) → va_S A s.heap H1 locs1 → H1[q]? = some ce → ce.vm = .none → s.vm.findClass E = some ce.cls → vx_W p l e R s m args below meth c H1 locs1 (cells + rm.cells) (slots + rm.slots) Q (F0 m pc ls rest) q)
    (kk : ∀ (o : Option Value) (w1 : va_W) (H1 : Heap) (locs1 : List Loc), Ok' o w1 → va_P G jcl (w1 ++ wr) H1 → va_D A (w1 ++ wr) → va_S A s.heap H1 locs1 → W p l e R s m args below meth c H1 locs1 (cells + rm.cells) (slots + rm.slots) Q (F0 m (pc + 3) ls (o.toList ++ rest))) : W p l e R s m args below meth c H locs cells slots Q (F0 m pc ls st) := by
  have hF : ∀ q, va_A wc H.size q → A q := by
    intro q h
    rcases h with ⟨k, e, h⟩ | h
    · exact (jw_leftD hD).2 k (q, e) h
    · exact hA q (Nat.le_trans hS.1 h)
  have next : ∀ (T' : State) (L : List Loc) (w1 : va_W), H.size ≤ T'.heap.size → (∀ q : Nat, q < H.size → ¬ va_A wc H.size q → T'.heap[q]? = H[q]?) → (∀ z ∈ L, va_A wc H.size z.base) → va_P G jcl w1 T'.heap → va_D (va_A wc H.size) w1 → va_P G jcl (w1 ++ wr) T'.heap ∧ va_D A (w1 ++ wr) ∧ va_S A s.heap T'.heap (locs ++ L) := by
    intro T' L w1 hz hk hL hb hb2
    obtain ⟨hP1, hD1⟩ := jw_join hP hD hk hF hb hb2
    exact ⟨hP1, hD1, Nat.le_trans hS.1 hz, fun q h1 h2 => by rw [hk q (Nat.lt_of_lt_of_le h1 hS.1) (fun z => h2 (hF q z))]; exact hS.2.1 q h1 h2, fun q hq => by
      rcases List.mem_append.mp hq with h | h
      · exact hS.2.2 q h
      · exact hF _ (hL q h)⟩
  intro T hT X
  rcases hr T hT X with ⟨v, st₀, t, T', L, h0, X', hL, e1, e2, ⟨⟨o, w1, hv, ho, hb, -, hb2⟩, hz, hk⟩, sg⟩ | ⟨q, st₀, t, T', L, E, ce, h0, X', hL, e1, e2, ⟨w1, ho, hb, -, hb2, hz, hk⟩, hce, hcv, hcl, sg⟩
  · cases hv
    rw [h0] at hz hk
    rw [← e1] at hb hz hk
    obtain ⟨n1, n2, n3⟩ := next T' L w1 hz hk hL hb hb2
    obtain ⟨t2, a1, b1⟩ := kk _ w1 T'.heap (locs ++ L) ho n1 n2 n3 T' rfl X'
    exact ⟨t2, sg t2 a1, b1⟩
  · rw [h0] at hz hk
    rw [← e1] at hb hz hk hce
    obtain ⟨n1, n2, n3⟩ := next T' L w1 hz hk hL hb hb2
    obtain ⟨t2, a1, b1⟩ := kx E w1 T'.heap (locs ++ L) q ce ho n1 n2 n3 hce hcv hcl T' rfl X'
    exact ⟨t2, sg.trans a1, b1⟩
theorem jt_callS {index : Nat} {y : MethodName} {bytes : ByteArray} {maxL n : Nat} {rt : Option FieldType} {tys' : List (ClassId × FieldType)} {wc wr : va_W} {Bs : List Value} {Ok' : Option Value → va_W → Prop} {Ex' : String → va_W → Prop}
    (C : jx p s m args meth c own cc nL ret) (hz : jz A s s.heap) (hM : jt l y (.code y bytes maxL rt) rm G tys' wc Bs Ok' Ex') (kl : jc_S own index y bytes maxL rt n)
    (hR : rm.frames + 1 ≤ R.frames ∧ 8 + (maxL + 11) + rm.locals ≤ R.locals) (hc : cells + rm.cells ≤ R.cells ∧ slots + rm.slots ≤ R.slots)
    (hP : va_P G jcl (wc ++ wr) H) (hD : va_D A (wc ++ wr)) (hS : va_S A s.heap H locs) (hA : ∀ q, s.heap.size ≤ q → A q) (hK : va_K G jcl tys' s)
    (hl : ls.size = nL) (hn : Bs.length = n) (hst : st = Bs.reverse ++ rest) (hw : (rest.map fun v => v.category).sum ≤ 8) (hd : decode cc pc = .ok (.invokestatic index, 3))
    (kx : ∀ (E : String) (w1 : va_W) (H1 : Heap) (locs1 : List Loc) (q : Addr) (ce : Cell), Ex' E w1 → va_P G jcl (w1 ++ wr) H1 → va_D A (w1 ++ wr) → va_S A s.heap H1 locs1 → H1[q]? = some ce → ce.vm = .none → s.vm.findClass E = some ce.cls → vx_W p l e R s m args below meth c H1 locs1 (cells + rm.cells) (slots + rm.slots) Q (F0 m pc ls rest) q)
    (kk : ∀ (o : Option Value) (w1 : va_W) (H1 : Heap) (locs1 : List Loc), Ok' o w1 → va_P G jcl (w1 ++ wr) H1 → va_D A (w1 ++ wr) → va_S A s.heap H1 locs1 → W p l e R s m args below meth c H1 locs1 (cells + rm.cells) (slots + rm.slots) Q (F0 m (pc + 3) ls (o.toList ++ rest))) : W p l e R s m args below meth c H locs cells slots Q (F0 m pc ls st) := by
  obtain ⟨k1, k2, k4, k5, k6⟩ := kl
  have hF : ∀ q, va_A wc H.size q → A q := by
    intro q h
    rcases h with ⟨k, e, h⟩ | h
    · exact (jw_leftD hD).2 k (q, e) h
    · exact hA q (Nat.le_trans hS.1 h)
  refine jt_back (rm := rm) (a := Bs.toArray) (tys' := tys') (wc := wc) (vx_runS (As := Bs) (rest := rest) (Ts := jb) ⟨C.1, C.2.1, C.2.2.1, C.2.2.2.1, C.2.2.2.2.1⟩ (hM H.size)
    ⟨⟨rfl, rfl, hR.1, hR.2, ?_, List.mem_cons_self, C.2.2.2.2.1 _ k5, C.2.2.2.2.1 _ k4, ⟨k6.1, k6.2.1⟩, fun sig h => ?_, C.2.2.2.2.1 _ k1⟩, C.2.2.2.2.1 _ k2⟩
    ⟨fun a U g mk q => ⟨q.1, q.2.1, q.2.2.1, va_K.moved (u := U) (U := U.calling g mk a) (Vm.Alike.refl U.vm) q.2.2.2.1, q.2.2.2.2.1, jz_same (U := U.calling g mk a) q.2.2.2.2.2 rfl⟩, fun U hU hW => ⟨rfl, by rw [hU], by rw [hU]; exact jw_left hP, va_K.moved hW.alike hK, (jw_leftD hD).weaken (fun _ _ _ _ => trivial), by rw [hU]; exact jz_warm hz hW hS.2.1 hF⟩⟩ rfl hn hl hst (lv_room hw) hd hc) hP hD hS hA kx kk
  · intro w hw a' U hW
    rcases List.mem_cons.mp hw with rfl | hw
    · exact word_at hW (good_of_word (jb_g k5)) (C.2.2.2.2.1 _ k5)
    · exact word_at hW (good_of_word (jb_g hw)) (C.2.2.2.2.1 _ hw)
  · have h9 := k6.2.2
    rw [h] at h9
    exact (Option.some.inj h9).symm
theorem jt_callV {index : Nat} {y : MethodName} {bytes : ByteArray} {maxL n : Nat} {rt : Option FieldType} {tys' : List (ClassId × FieldType)} {wc wr : va_W} {b : Addr} {Bs : List Value} {Ok' : Option Value → va_W → Prop} {Ex' : String → va_W → Prop}
    (C : jx p s m args meth c own cc nL ret) (hz : jz A s s.heap) (hM : jt l y (.code y bytes maxL rt) rm G tys' wc (.ref b :: Bs) Ok' Ex') (kl : jc_V own index y bytes maxL rt n)
    (hR : rm.frames + 1 ≤ R.frames ∧ 8 + (maxL + 11) + rm.locals ≤ R.locals) (hc : cells + rm.cells ≤ R.cells ∧ slots + rm.slots ≤ R.slots)
    (hP : va_P G jcl (wc ++ wr) H) (hD : va_D A (wc ++ wr)) (hS : va_S A s.heap H locs) (hA : ∀ q, s.heap.size ≤ q → A q) (hK : va_K G jcl tys' s) (hv : ∃ cell : Cell, H[b]? = some cell ∧ cell.vm.isStatics = false ∧ s.vm.findClass y.cls = some cell.cls)
    (hl : ls.size = nL) (hn : Bs.length = n) (hst : st = Bs.reverse ++ .ref b :: rest) (hw : (rest.map fun v => v.category).sum ≤ 8) (hd : decode cc pc = .ok (.invokevirtual index, 3))
    (kx : ∀ (E : String) (w1 : va_W) (H1 : Heap) (locs1 : List Loc) (q : Addr) (ce : Cell), Ex' E w1 → va_P G jcl (w1 ++ wr) H1 → va_D A (w1 ++ wr) → va_S A s.heap H1 locs1 → H1[q]? = some ce → ce.vm = .none → s.vm.findClass E = some ce.cls → vx_W p l e R s m args below meth c H1 locs1 (cells + rm.cells) (slots + rm.slots) Q (F0 m pc ls rest) q)
    (kk : ∀ (o : Option Value) (w1 : va_W) (H1 : Heap) (locs1 : List Loc), Ok' o w1 → va_P G jcl (w1 ++ wr) H1 → va_D A (w1 ++ wr) → va_S A s.heap H1 locs1 → W p l e R s m args below meth c H1 locs1 (cells + rm.cells) (slots + rm.slots) Q (F0 m (pc + 3) ls (o.toList ++ rest))) : W p l e R s m args below meth c H locs cells slots Q (F0 m pc ls st) := by
  obtain ⟨k1, k2, k3, k4, k5, k6⟩ := kl
  have hF : ∀ q, va_A wc H.size q → A q := by
    intro q h
    rcases h with ⟨k, e, h⟩ | h
    · exact (jw_leftD hD).2 k (q, e) h
    · exact hA q (Nat.le_trans hS.1 h)
  refine jt_back (rm := rm) (a := (Value.ref b :: Bs).toArray) (tys' := tys') (wc := wc) (vx_runV (As := Bs) (rest := rest) (Ts := jb) ⟨C.1, C.2.1, C.2.2.1, C.2.2.2.1, C.2.2.2.2.1⟩ (hM H.size)
    ⟨⟨rfl, rfl, hR.1, hR.2, ?_, List.mem_cons_self, C.2.2.2.2.1 _ k5, C.2.2.2.2.1 _ k4, ⟨k6.1, k6.2.1⟩, fun sig h => ?_, C.2.2.2.2.1 _ k1⟩, C.2.2.2.2.1 _ k2, C.2.2.2.2.1 _ k3⟩
    ⟨fun a U g mk q => ⟨q.1, q.2.1, q.2.2.1, va_K.moved (u := U) (U := U.calling g mk a) (Vm.Alike.refl U.vm) q.2.2.2.1, q.2.2.2.2.1, jz_same (U := U.calling g mk a) q.2.2.2.2.2 rfl⟩, hv, fun U hU hW => ⟨rfl, by rw [hU], by rw [hU]; exact jw_left hP, va_K.moved hW.alike hK, (jw_leftD hD).weaken (fun _ _ _ _ => trivial), by rw [hU]; exact jz_warm hz hW hS.2.1 hF⟩⟩ rfl hn hl hst (lv_room hw) hd hc) hP hD hS hA kx kk
  · intro w hw a' U hW
    rcases List.mem_cons.mp hw with rfl | hw
    · exact word_at hW (good_of_word (jb_g k5)) (C.2.2.2.2.1 _ k5)
    · exact word_at hW (good_of_word (jb_g hw)) (C.2.2.2.2.1 _ hw)
  · have h9 := k6.2.2
    rw [h] at h9
    exact (Option.some.inj h9).symm
end JX
theorem tk_IAE : Cond.classLink cn_J 229 "java/lang/IllegalArgumentException" ∈ jb := jb_t (List.mem_append_left _ (List.mem_of_getElem? (i := 201) rfl)) rfl
theorem ti_IAE : Cond.initialized "java/lang/IllegalArgumentException" ∈ jb := jb_t (List.mem_append_left _ (List.mem_of_getElem? (i := 10) rfl)) rfl
theorem tg_IAE : ∀ w ∈ (vx_atS cn_J 233 "java/lang/IllegalArgumentException" jn_ex).filter goodWord, w ∈ jb := fun w hw => List.mem_filter.mpr ⟨(by decide +kernel : ∀ w ∈ (vx_atS cn_J 233 "java/lang/IllegalArgumentException" jn_ex).filter goodWord, w ∈ lw_tbl) w hw, (List.mem_filter.mp hw).2⟩
theorem tb_IAE : ∀ w ∈ (vx_atS cn_J 233 "java/lang/IllegalArgumentException" jn_ex).filter (fun w => !goodWord w), w ∈ jzl := by decide +kernel
theorem to_IAE : ∀ w ∈ Cond.classLink cn_J 229 "java/lang/IllegalArgumentException" :: Cond.initialized "java/lang/IllegalArgumentException" :: vx_atS cn_J 233 "java/lang/IllegalArgumentException" jn_ex, vx_ot w = true := by decide +kernel
theorem tt_IAES {p : Program} {l : Launch} {e : Env} {R : Room} {s : State} {m : MethodId} {below : List Frame} {meth : Method} {c : Code} {H : Heap} {locs : List Loc} {cells slots : Nat} {cc : ByteArray} {pc nL : Nat} {ls : Array Slot} {rest : List Value} {ret : Option FieldType} {G : va_G} {tys : List (ClassId × FieldType)} {A : Nat → Prop} {ws' : va_W} {As : List Value} {rm : Room} {Ok : Option Value → va_W → Prop} {Ex : String → va_W → Prop} {is : Nat} {text : String}
    (hl9 : l.stackTraces = false) (htb : ∀ x ∈ c.exceptionTable.toList, False) (C : jx p s m As.toArray meth c cn_J cc nL ret) (hz : jz A s s.heap) (hs : (is, text) ∈ jzs) (ho : Ex "java/lang/IllegalArgumentException" ws') (hP : va_P G jcl ws' H) (hD : va_D A ws') (hK : va_K G jcl tys s) (hS : va_S A s.heap H locs) (hl : ls.size = nL)
    (d0 : decode cc pc = .ok (.new 229, 3)) (d3 : decode cc (pc + 3) = .ok (.dup, 1)) (d4 : decode cc (pc + 4) = .ok (.ldc is, 2)) (d6 : decode cc (pc + 6) = .ok (.invokespecial 233, 3)) (d9 : decode cc (pc + 9) = .ok (.athrow, 1))
    (hR : 5 < R.frames ∧ (rest.map fun v => v.category).sum + 82 ≤ R.locals ∧ cells + 1 ≤ R.cells ∧ slots + 6 ≤ R.slots) (hc : cells + 1 ≤ rm.cells ∧ slots + 6 ≤ rm.slots) :
    W p l e R s m As.toArray below meth c H locs cells slots (jt_Q below rm G tys A As s Ok Ex) (F0 m pc ls rest) := by
  obtain ⟨sa, hsa⟩ := hz.2.1 _ hs
  exact vx_throwS (own := cn_J) (cls := "java/lang/IllegalArgumentException") (names := jn_ex) (A := A) C.1 C.2.1 hl9 C.2.2.2.1 (by decide +kernel) (by decide +kernel) (C.2.2.2.2.1 _ tk_IAE) (C.2.2.2.2.1 _ ti_IAE) hsa
    (vx_hat (fun w hw => C.2.2.2.2.1 w (tg_IAE w hw)) tb_IAE (fun w hw => va_Nw.use (by
      simp only [jzl, List.mem_cons, List.not_mem_nil, or_false] at hw
      rcases hw with rfl | rfl | rfl | rfl | rfl | rfl | rfl <;> rfl) (hz.1 w hw))) to_IAE hz.2.2.1 hz.2.2.2 hS (hl.trans C.2.2.1.symm) d0 d3 d4 d6 d9 (fun x hx => (htb x hx).elim) hR.1 hR.2.1 hR.2.2.1 hR.2.2.2 C.2.2.2.2.2.2
    (fun t ha hsz hk => ⟨ws', ho, hP.kept (fun k q hq => hk q.1 (hP k q hq).lt), va_K.moved ha hK, hD, Nat.le_trans hS.1 hsz, fun q h1 h2 => (hk q (Nat.lt_of_lt_of_le h1 hS.1)).trans (hS.2.1 q h1 h2)⟩) hS.2.2 hc.1 hc.2
theorem tt_IAEW {p : Program} {l : Launch} {e : Env} {R : Room} {s : State} {m : MethodId} {below : List Frame} {meth : Method} {c : Code} {H : Heap} {locs : List Loc} {cells slots : Nat} {cc : ByteArray} {pc nL : Nat} {ls : Array Slot} {rest : List Value} {ret : Option FieldType} {G : va_G} {tys : List (ClassId × FieldType)} {A : Nat → Prop} {ws' : va_W} {As : List Value} {rm : Room} {Ok : Option Value → va_W → Prop} {Ex : String → va_W → Prop} {is : Nat} {text : String}
    (hl9 : l.stackTraces = false) (htb : ∀ x ∈ c.exceptionTable.toList, False) (C : jx p s m As.toArray meth c cn_J cc nL ret) (hz : jz A s s.heap) (hs : (is, text) ∈ jzs) (ho : Ex "java/lang/IllegalArgumentException" ws') (hP : va_P G jcl ws' H) (hD : va_D A ws') (hK : va_K G jcl tys s) (hS : va_S A s.heap H locs) (hl : ls.size = nL)
    (d0 : decode cc pc = .ok (.new 229, 3)) (d3 : decode cc (pc + 3) = .ok (.dup, 1)) (d4 : decode cc (pc + 4) = .ok (.ldc_w is, 3)) (d6 : decode cc (pc + 7) = .ok (.invokespecial 233, 3)) (d9 : decode cc (pc + 10) = .ok (.athrow, 1))
    (hR : 5 < R.frames ∧ (rest.map fun v => v.category).sum + 82 ≤ R.locals ∧ cells + 1 ≤ R.cells ∧ slots + 6 ≤ R.slots) (hc : cells + 1 ≤ rm.cells ∧ slots + 6 ≤ rm.slots) :
    W p l e R s m As.toArray below meth c H locs cells slots (jt_Q below rm G tys A As s Ok Ex) (F0 m pc ls rest) := by
  obtain ⟨sa, hsa⟩ := hz.2.1 _ hs
  exact vx_throwSW (own := cn_J) (cls := "java/lang/IllegalArgumentException") (names := jn_ex) (A := A) C.1 C.2.1 hl9 C.2.2.2.1 (by decide +kernel) (by decide +kernel) (C.2.2.2.2.1 _ tk_IAE) (C.2.2.2.2.1 _ ti_IAE) hsa
    (vx_hat (fun w hw => C.2.2.2.2.1 w (tg_IAE w hw)) tb_IAE (fun w hw => va_Nw.use (by
      simp only [jzl, List.mem_cons, List.not_mem_nil, or_false] at hw
      rcases hw with rfl | rfl | rfl | rfl | rfl | rfl | rfl <;> rfl) (hz.1 w hw))) to_IAE hz.2.2.1 hz.2.2.2 hS (hl.trans C.2.2.1.symm) d0 d3 d4 d6 d9 (fun x hx => (htb x hx).elim) hR.1 hR.2.1 hR.2.2.1 hR.2.2.2 C.2.2.2.2.2.2
    (fun t ha hsz hk => ⟨ws', ho, hP.kept (fun k q hq => hk q.1 (hP k q hq).lt), va_K.moved ha hK, hD, Nat.le_trans hS.1 hsz, fun q h1 h2 => (hk q (Nat.lt_of_lt_of_le h1 hS.1)).trans (hS.2.1 q h1 h2)⟩) hS.2.2 hc.1 hc.2
theorem tk_ISE : Cond.classLink cn_J 47 "java/lang/IllegalStateException" ∈ jb := jb_t (List.mem_append_right _ (List.mem_append_left _ (List.mem_of_getElem? (i := 58) rfl))) rfl
theorem ti_ISE : Cond.initialized "java/lang/IllegalStateException" ∈ jb := jb_t (List.mem_append_left _ (List.mem_of_getElem? (i := 11) rfl)) rfl
theorem tg_ISE : ∀ w ∈ (vx_atS cn_J 51 "java/lang/IllegalStateException" jn_ex).filter goodWord, w ∈ jb := fun w hw => List.mem_filter.mpr ⟨(by decide +kernel : ∀ w ∈ (vx_atS cn_J 51 "java/lang/IllegalStateException" jn_ex).filter goodWord, w ∈ lw_tbl) w hw, (List.mem_filter.mp hw).2⟩
theorem tb_ISE : ∀ w ∈ (vx_atS cn_J 51 "java/lang/IllegalStateException" jn_ex).filter (fun w => !goodWord w), w ∈ jzl := by decide +kernel
theorem to_ISE : ∀ w ∈ Cond.classLink cn_J 47 "java/lang/IllegalStateException" :: Cond.initialized "java/lang/IllegalStateException" :: vx_atS cn_J 51 "java/lang/IllegalStateException" jn_ex, vx_ot w = true := by decide +kernel
theorem tt_ISES {p : Program} {l : Launch} {e : Env} {R : Room} {s : State} {m : MethodId} {below : List Frame} {meth : Method} {c : Code} {H : Heap} {locs : List Loc} {cells slots : Nat} {cc : ByteArray} {pc nL : Nat} {ls : Array Slot} {rest : List Value} {ret : Option FieldType} {G : va_G} {tys : List (ClassId × FieldType)} {A : Nat → Prop} {ws' : va_W} {As : List Value} {rm : Room} {Ok : Option Value → va_W → Prop} {Ex : String → va_W → Prop} {is : Nat} {text : String}
    (hl9 : l.stackTraces = false) (htb : ∀ x ∈ c.exceptionTable.toList, False) (C : jx p s m As.toArray meth c cn_J cc nL ret) (hz : jz A s s.heap) (hs : (is, text) ∈ jzs) (ho : Ex "java/lang/IllegalStateException" ws') (hP : va_P G jcl ws' H) (hD : va_D A ws') (hK : va_K G jcl tys s) (hS : va_S A s.heap H locs) (hl : ls.size = nL)
    (d0 : decode cc pc = .ok (.new 47, 3)) (d3 : decode cc (pc + 3) = .ok (.dup, 1)) (d4 : decode cc (pc + 4) = .ok (.ldc is, 2)) (d6 : decode cc (pc + 6) = .ok (.invokespecial 51, 3)) (d9 : decode cc (pc + 9) = .ok (.athrow, 1))
    (hR : 5 < R.frames ∧ (rest.map fun v => v.category).sum + 82 ≤ R.locals ∧ cells + 1 ≤ R.cells ∧ slots + 6 ≤ R.slots) (hc : cells + 1 ≤ rm.cells ∧ slots + 6 ≤ rm.slots) :
    W p l e R s m As.toArray below meth c H locs cells slots (jt_Q below rm G tys A As s Ok Ex) (F0 m pc ls rest) := by
  obtain ⟨sa, hsa⟩ := hz.2.1 _ hs
  exact vx_throwS (own := cn_J) (cls := "java/lang/IllegalStateException") (names := jn_ex) (A := A) C.1 C.2.1 hl9 C.2.2.2.1 (by decide +kernel) (by decide +kernel) (C.2.2.2.2.1 _ tk_ISE) (C.2.2.2.2.1 _ ti_ISE) hsa
    (vx_hat (fun w hw => C.2.2.2.2.1 w (tg_ISE w hw)) tb_ISE (fun w hw => va_Nw.use (by
      simp only [jzl, List.mem_cons, List.not_mem_nil, or_false] at hw
      rcases hw with rfl | rfl | rfl | rfl | rfl | rfl | rfl <;> rfl) (hz.1 w hw))) to_ISE hz.2.2.1 hz.2.2.2 hS (hl.trans C.2.2.1.symm) d0 d3 d4 d6 d9 (fun x hx => (htb x hx).elim) hR.1 hR.2.1 hR.2.2.1 hR.2.2.2 C.2.2.2.2.2.2
    (fun t ha hsz hk => ⟨ws', ho, hP.kept (fun k q hq => hk q.1 (hP k q hq).lt), va_K.moved ha hK, hD, Nat.le_trans hS.1 hsz, fun q h1 h2 => (hk q (Nat.lt_of_lt_of_le h1 hS.1)).trans (hS.2.1 q h1 h2)⟩) hS.2.2 hc.1 hc.2
theorem tt_ISEW {p : Program} {l : Launch} {e : Env} {R : Room} {s : State} {m : MethodId} {below : List Frame} {meth : Method} {c : Code} {H : Heap} {locs : List Loc} {cells slots : Nat} {cc : ByteArray} {pc nL : Nat} {ls : Array Slot} {rest : List Value} {ret : Option FieldType} {G : va_G} {tys : List (ClassId × FieldType)} {A : Nat → Prop} {ws' : va_W} {As : List Value} {rm : Room} {Ok : Option Value → va_W → Prop} {Ex : String → va_W → Prop} {is : Nat} {text : String}
    (hl9 : l.stackTraces = false) (htb : ∀ x ∈ c.exceptionTable.toList, False) (C : jx p s m As.toArray meth c cn_J cc nL ret) (hz : jz A s s.heap) (hs : (is, text) ∈ jzs) (ho : Ex "java/lang/IllegalStateException" ws') (hP : va_P G jcl ws' H) (hD : va_D A ws') (hK : va_K G jcl tys s) (hS : va_S A s.heap H locs) (hl : ls.size = nL)
    (d0 : decode cc pc = .ok (.new 47, 3)) (d3 : decode cc (pc + 3) = .ok (.dup, 1)) (d4 : decode cc (pc + 4) = .ok (.ldc_w is, 3)) (d6 : decode cc (pc + 7) = .ok (.invokespecial 51, 3)) (d9 : decode cc (pc + 10) = .ok (.athrow, 1))
    (hR : 5 < R.frames ∧ (rest.map fun v => v.category).sum + 82 ≤ R.locals ∧ cells + 1 ≤ R.cells ∧ slots + 6 ≤ R.slots) (hc : cells + 1 ≤ rm.cells ∧ slots + 6 ≤ rm.slots) :
    W p l e R s m As.toArray below meth c H locs cells slots (jt_Q below rm G tys A As s Ok Ex) (F0 m pc ls rest) := by
  obtain ⟨sa, hsa⟩ := hz.2.1 _ hs
  exact vx_throwSW (own := cn_J) (cls := "java/lang/IllegalStateException") (names := jn_ex) (A := A) C.1 C.2.1 hl9 C.2.2.2.1 (by decide +kernel) (by decide +kernel) (C.2.2.2.2.1 _ tk_ISE) (C.2.2.2.2.1 _ ti_ISE) hsa
    (vx_hat (fun w hw => C.2.2.2.2.1 w (tg_ISE w hw)) tb_ISE (fun w hw => va_Nw.use (by
      simp only [jzl, List.mem_cons, List.not_mem_nil, or_false] at hw
      rcases hw with rfl | rfl | rfl | rfl | rfl | rfl | rfl <;> rfl) (hz.1 w hw))) to_ISE hz.2.2.1 hz.2.2.2 hS (hl.trans C.2.2.1.symm) d0 d3 d4 d6 d9 (fun x hx => (htb x hx).elim) hR.1 hR.2.1 hR.2.2.1 hR.2.2.2 C.2.2.2.2.2.2
    (fun t ha hsz hk => ⟨ws', ho, hP.kept (fun k q hq => hk q.1 (hP k q hq).lt), va_K.moved ha hK, hD, Nat.le_trans hS.1 hsz, fun q h1 h2 => (hk q (Nat.lt_of_lt_of_le h1 hS.1)).trans (hS.2.1 q h1 h2)⟩) hS.2.2 hc.1 hc.2
theorem tk_UOE : Cond.classLink cn_J 178 "java/lang/UnsupportedOperationException" ∈ jb := jb_t (List.mem_append_right _ (List.mem_append_left _ (List.mem_of_getElem? (i := 113) rfl))) rfl
theorem ti_UOE : Cond.initialized "java/lang/UnsupportedOperationException" ∈ jb := jb_t (List.mem_append_left _ (List.mem_of_getElem? (i := 13) rfl)) rfl
theorem tg_UOE : ∀ w ∈ (vx_atS cn_J 182 "java/lang/UnsupportedOperationException" jn_ex).filter goodWord, w ∈ jb := fun w hw => List.mem_filter.mpr ⟨(by decide +kernel : ∀ w ∈ (vx_atS cn_J 182 "java/lang/UnsupportedOperationException" jn_ex).filter goodWord, w ∈ lw_tbl) w hw, (List.mem_filter.mp hw).2⟩
theorem tb_UOE : ∀ w ∈ (vx_atS cn_J 182 "java/lang/UnsupportedOperationException" jn_ex).filter (fun w => !goodWord w), w ∈ jzl := by decide +kernel
theorem to_UOE : ∀ w ∈ Cond.classLink cn_J 178 "java/lang/UnsupportedOperationException" :: Cond.initialized "java/lang/UnsupportedOperationException" :: vx_atS cn_J 182 "java/lang/UnsupportedOperationException" jn_ex, vx_ot w = true := by decide +kernel
theorem tt_UOES {p : Program} {l : Launch} {e : Env} {R : Room} {s : State} {m : MethodId} {below : List Frame} {meth : Method} {c : Code} {H : Heap} {locs : List Loc} {cells slots : Nat} {cc : ByteArray} {pc nL : Nat} {ls : Array Slot} {rest : List Value} {ret : Option FieldType} {G : va_G} {tys : List (ClassId × FieldType)} {A : Nat → Prop} {ws' : va_W} {As : List Value} {rm : Room} {Ok : Option Value → va_W → Prop} {Ex : String → va_W → Prop} {is : Nat} {text : String}
    (hl9 : l.stackTraces = false) (htb : ∀ x ∈ c.exceptionTable.toList, False) (C : jx p s m As.toArray meth c cn_J cc nL ret) (hz : jz A s s.heap) (hs : (is, text) ∈ jzs) (ho : Ex "java/lang/UnsupportedOperationException" ws') (hP : va_P G jcl ws' H) (hD : va_D A ws') (hK : va_K G jcl tys s) (hS : va_S A s.heap H locs) (hl : ls.size = nL)
    (d0 : decode cc pc = .ok (.new 178, 3)) (d3 : decode cc (pc + 3) = .ok (.dup, 1)) (d4 : decode cc (pc + 4) = .ok (.ldc is, 2)) (d6 : decode cc (pc + 6) = .ok (.invokespecial 182, 3)) (d9 : decode cc (pc + 9) = .ok (.athrow, 1))
    (hR : 5 < R.frames ∧ (rest.map fun v => v.category).sum + 82 ≤ R.locals ∧ cells + 1 ≤ R.cells ∧ slots + 6 ≤ R.slots) (hc : cells + 1 ≤ rm.cells ∧ slots + 6 ≤ rm.slots) :
    W p l e R s m As.toArray below meth c H locs cells slots (jt_Q below rm G tys A As s Ok Ex) (F0 m pc ls rest) := by
  obtain ⟨sa, hsa⟩ := hz.2.1 _ hs
  exact vx_throwS (own := cn_J) (cls := "java/lang/UnsupportedOperationException") (names := jn_ex) (A := A) C.1 C.2.1 hl9 C.2.2.2.1 (by decide +kernel) (by decide +kernel) (C.2.2.2.2.1 _ tk_UOE) (C.2.2.2.2.1 _ ti_UOE) hsa
    (vx_hat (fun w hw => C.2.2.2.2.1 w (tg_UOE w hw)) tb_UOE (fun w hw => va_Nw.use (by
      simp only [jzl, List.mem_cons, List.not_mem_nil, or_false] at hw
      rcases hw with rfl | rfl | rfl | rfl | rfl | rfl | rfl <;> rfl) (hz.1 w hw))) to_UOE hz.2.2.1 hz.2.2.2 hS (hl.trans C.2.2.1.symm) d0 d3 d4 d6 d9 (fun x hx => (htb x hx).elim) hR.1 hR.2.1 hR.2.2.1 hR.2.2.2 C.2.2.2.2.2.2
    (fun t ha hsz hk => ⟨ws', ho, hP.kept (fun k q hq => hk q.1 (hP k q hq).lt), va_K.moved ha hK, hD, Nat.le_trans hS.1 hsz, fun q h1 h2 => (hk q (Nat.lt_of_lt_of_le h1 hS.1)).trans (hS.2.1 q h1 h2)⟩) hS.2.2 hc.1 hc.2
theorem tt_UOEW {p : Program} {l : Launch} {e : Env} {R : Room} {s : State} {m : MethodId} {below : List Frame} {meth : Method} {c : Code} {H : Heap} {locs : List Loc} {cells slots : Nat} {cc : ByteArray} {pc nL : Nat} {ls : Array Slot} {rest : List Value} {ret : Option FieldType} {G : va_G} {tys : List (ClassId × FieldType)} {A : Nat → Prop} {ws' : va_W} {As : List Value} {rm : Room} {Ok : Option Value → va_W → Prop} {Ex : String → va_W → Prop} {is : Nat} {text : String}
    (hl9 : l.stackTraces = false) (htb : ∀ x ∈ c.exceptionTable.toList, False) (C : jx p s m As.toArray meth c cn_J cc nL ret) (hz : jz A s s.heap) (hs : (is, text) ∈ jzs) (ho : Ex "java/lang/UnsupportedOperationException" ws') (hP : va_P G jcl ws' H) (hD : va_D A ws') (hK : va_K G jcl tys s) (hS : va_S A s.heap H locs) (hl : ls.size = nL)
    (d0 : decode cc pc = .ok (.new 178, 3)) (d3 : decode cc (pc + 3) = .ok (.dup, 1)) (d4 : decode cc (pc + 4) = .ok (.ldc_w is, 3)) (d6 : decode cc (pc + 7) = .ok (.invokespecial 182, 3)) (d9 : decode cc (pc + 10) = .ok (.athrow, 1))
    (hR : 5 < R.frames ∧ (rest.map fun v => v.category).sum + 82 ≤ R.locals ∧ cells + 1 ≤ R.cells ∧ slots + 6 ≤ R.slots) (hc : cells + 1 ≤ rm.cells ∧ slots + 6 ≤ rm.slots) :
    W p l e R s m As.toArray below meth c H locs cells slots (jt_Q below rm G tys A As s Ok Ex) (F0 m pc ls rest) := by
  obtain ⟨sa, hsa⟩ := hz.2.1 _ hs
  exact vx_throwSW (own := cn_J) (cls := "java/lang/UnsupportedOperationException") (names := jn_ex) (A := A) C.1 C.2.1 hl9 C.2.2.2.1 (by decide +kernel) (by decide +kernel) (C.2.2.2.2.1 _ tk_UOE) (C.2.2.2.2.1 _ ti_UOE) hsa
    (vx_hat (fun w hw => C.2.2.2.2.1 w (tg_UOE w hw)) tb_UOE (fun w hw => va_Nw.use (by
      simp only [jzl, List.mem_cons, List.not_mem_nil, or_false] at hw
      rcases hw with rfl | rfl | rfl | rfl | rfl | rfl | rfl <;> rfl) (hz.1 w hw))) to_UOE hz.2.2.1 hz.2.2.2 hS (hl.trans C.2.2.1.symm) d0 d3 d4 d6 d9 (fun x hx => (htb x hx).elim) hR.1 hR.2.1 hR.2.2.1 hR.2.2.2 C.2.2.2.2.2.2
    (fun t ha hsz hk => ⟨ws', ho, hP.kept (fun k q hq => hk q.1 (hP k q hq).lt), va_K.moved ha hK, hD, Nat.le_trans hS.1 hsz, fun q h1 h2 => (hk q (Nat.lt_of_lt_of_le h1 hS.1)).trans (hS.2.1 q h1 h2)⟩) hS.2.2 hc.1 hc.2
