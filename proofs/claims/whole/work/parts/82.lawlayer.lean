/-! the law's wrappers: static methods with a table of catches, that throw nothing themselves -/
def jI (x : Int32) : Nat := x.toBitVec.toNat
theorem jI_lt (x : Int32) : jI x < 4294967296 := x.toBitVec.isLt
theorem jI_eq (x : Int32) : nI (jI x) = x := Int32.toBitVec_inj.mp (by show BitVec.ofNat 32 x.toBitVec.toNat = x.toBitVec; simp)
def jbo (n : Nat) : Nat := if n = 0 then 0 else 1
theorem jbo_lt (n : Nat) : jbo n < 2 := by unfold jbo; split <;> decide
theorem jx_ne0 {t : Nat} (h : ¬ t = 0) (ht : t < 2 ^ 31) : ¬ nI t = 0 := fun q => h ((jn_eq32 (by omega) (by decide)).mp (q.trans nI_0.symm))
theorem jx_cmp0 (x : Int64) : lg_cmp x x = nI 0 := by rw [nI_0]; simp [lg_cmp]
def jy (U : State) : Prop := va_Nc "java/util/NoSuchElementException" "java/lang/IllegalArgumentException" U ∧ va_Nc "java/lang/IllegalStateException" "java/lang/IllegalArgumentException" U ∧ va_Nc "java/lang/IllegalStateException" "java/util/NoSuchElementException" U ∧ va_Nc "java/lang/UnsupportedOperationException" "java/lang/IllegalArgumentException" U ∧ va_Nc "java/lang/UnsupportedOperationException" "java/util/NoSuchElementException" U ∧ va_Nc "java/lang/UnsupportedOperationException" "java/lang/IllegalStateException" U
theorem jy_moved {u U : State} (h : u.vm.Alike U.vm) (y : jy u) : jy U := ⟨va_Nc.moved h y.1, va_Nc.moved h y.2.1, va_Nc.moved h y.2.2.1, va_Nc.moved h y.2.2.2.1, va_Nc.moved h y.2.2.2.2.1, va_Nc.moved h y.2.2.2.2.2⟩
def jL (l : Launch) (y : MethodName) (cc : ByteArray) (nL : Nat) (ret : Option FieldType) (hh : List (Nat × Nat × Nat × Nat)) (rm : Room) (G : va_G) (tys : List (ClassId × FieldType)) (ws : va_W) (As : List Value) (Ok : Option Value → va_W → Prop) : Prop :=
  ∀ sz : Nat, vx_Met l y (.codeWith y cc nL ret hh :: jb) rm (va_Pc As (fun U => U.heap.size = sz ∧ va_P G jcl ws U.heap ∧ va_K G jcl tys U ∧ va_D (fun _ => True) ws ∧ jz (va_A ws sz) U U.heap ∧ jy U)) (jt_E G tys (va_A ws sz) Ok) (jt_X G tys (va_A ws sz) (fun _ _ => False)) rm.cells rm.slots (va_A ws sz)
theorem jL_of {l : Launch} {y : MethodName} {cc : ByteArray} {nL : Nat} {ret : Option FieldType} {hh : List (Nat × Nat × Nat × Nat)} {rm : Room} {G : va_G} {tys : List (ClassId × FieldType)} {ws : va_W} {As : List Value} {Ok : Option Value → va_W → Prop}
    (hy : plainName y.cls = true) (hn : (lg_sl As).length ≤ nL)
    (body : ∀ (p : Program) (e : Env) (s : State) (m : MethodId) (below : List Frame) (meth : Method) (c : Code) (ls : Array Slot) (A : Nat → Prop), (∀ q : Nat, s.heap.size ≤ q → A q) → jx p s m As.toArray meth c y.cls cc nL ret → c.exceptionTable.toList = tableOf hh → jz A s s.heap → jy s → va_P G jcl ws s.heap → va_K G jcl tys s → va_D A ws → va_S A s.heap s.heap [] → lv_has ls nL (lv_args 0 As) →
      W p l e rm s m As.toArray below meth c s.heap [] 0 0 (jt_Q below rm G tys A As s Ok (fun _ _ => False)) (F0 m 0 ls [])) : jL l y cc nL ret hh rm G tys ws As Ok := by
  intro sz
  refine vx_ofWH (cc := cc) (maxL := nL) (ret := ret) (hh := hh) hy rfl ?_
  intro p e s m args below meth c s₁ B hml hv
  obtain ⟨rfl, hsz, hP, hK, hD0, hz, hy2⟩ := hv
  subst hsz
  have hD := hD0.self (sz := s.heap.size)
  have hts := atoms_spec (ws := Cond.codeWith y cc nL ret hh :: jb) B.pre
  have htb := vx_table (x := y) B (hts _ List.mem_cons_self)
  have hl := lv_entry As (n := nL) hn
  rw [lg_entry_eq]
  exact body p e s m below meth c _ (va_A ws s.heap.size) (fun q h => Or.inr h) ⟨B.exec, B.bytes, hml, findClass_of_methodNamed B.named, fun w h => hts w (List.mem_cons_of_mem _ h), B.returns, B.notSynchronized⟩ htb hz hy2 hP hK hD va_S.rf hl
section JLC
variable {p : Program} {l : Launch} {e : Env} {R : Room} {s : State} {m : MethodId} {args : Array Value} {below : List Frame} {meth : Method} {c : Code} {H H0 : Heap} {locs : List Loc} {cells slots : Nat} {Q : State → Prop}
variable {cc : ByteArray} {pc nL : Nat} {ls : Array Slot} {rest st : List Value} {own : String} {ret : Option FieldType} {G : va_G} {tys : List (ClassId × FieldType)} {A : Nat → Prop} {ws' : va_W} {As : List Value} {rm : Room} {Ok : Option Value → va_W → Prop}
/-- the words of a call of such a method -/
def jc_L (own : String) (index : Nat) (y : MethodName) (bytes : ByteArray) (maxL : Nat) (rt : Option FieldType) (hh : List (Nat × Nat × Nat × Nat)) (n : Nat) : Prop := Cond.methodLink own index y ∈ jb ∧ Cond.static y ∈ jb ∧ Cond.initialized y.cls ∈ jb ∧ Cond.codeWith y bytes maxL rt hh ∈ jb ∧ jc_d y n
theorem jL_callS {index : Nat} {y : MethodName} {bytes : ByteArray} {maxL n : Nat} {rt : Option FieldType} {hh : List (Nat × Nat × Nat × Nat)} {tys' : List (ClassId × FieldType)} {wc wr : va_W} {Bs : List Value}
    (C : jx p s m args meth c own cc nL ret) (hz : jz A s s.heap) (hy : jy s) (hM : jL l y bytes maxL rt hh rm G tys' wc Bs Ok) (kl : jc_L own index y bytes maxL rt hh n)
    (hR : rm.frames + 1 ≤ R.frames ∧ 8 + (maxL + 11) + rm.locals ≤ R.locals) (hc : cells + rm.cells ≤ R.cells ∧ slots + rm.slots ≤ R.slots)
    (hP : va_P G jcl (wc ++ wr) H) (hD : va_D A (wc ++ wr)) (hS : va_S A s.heap H locs) (hA : ∀ q, s.heap.size ≤ q → A q) (hK : va_K G jcl tys' s)
    (hl : ls.size = nL) (hn : Bs.length = n) (hst : st = Bs.reverse ++ rest) (hw : (rest.map fun v => v.category).sum ≤ 8) (hd : decode cc pc = .ok (.invokestatic index, 3))
    (kk : ∀ (o : Option Value) (w1 : va_W) (H1 : Heap) (locs1 : List Loc), Ok o w1 → va_P G jcl (w1 ++ wr) H1 → va_D A (w1 ++ wr) → va_S A s.heap H1 locs1 → W p l e R s m args below meth c H1 locs1 (cells + rm.cells) (slots + rm.slots) Q (F0 m (pc + 3) ls (o.toList ++ rest))) : W p l e R s m args below meth c H locs cells slots Q (F0 m pc ls st) := by
  obtain ⟨k1, k2, k4, k5, k6⟩ := kl
  have hF : ∀ q, va_A wc H.size q → A q := by
    intro q h
    rcases h with ⟨k, e, h⟩ | h
    · exact (jw_leftD hD).2 k (q, e) h
    · exact hA q (Nat.le_trans hS.1 h)
  refine jt_back (rm := rm) (a := Bs.toArray) (tys' := tys') (wc := wc) (vx_runSX (As := Bs) (rest := rest) (Ts := jb) (hh := hh) (bytes := bytes) (maxL := maxL) (ret := rt) ⟨C.1, C.2.1, C.2.2.1, C.2.2.2.1, C.2.2.2.2.1⟩ (hM H.size)
    ⟨⟨rfl, rfl, hR.1, hR.2, ?_, List.mem_cons_self⟩, C.2.2.2.2.1 _ k5, C.2.2.2.2.1 _ k4, ⟨k6.1, k6.2.1⟩, fun sig h => ?_, C.2.2.2.2.1 _ k1, C.2.2.2.2.1 _ k2⟩
    ⟨fun a U g mk q => ⟨q.1, q.2.1, q.2.2.1, va_K.moved (u := U) (U := U.calling g mk a) (Vm.Alike.refl U.vm) q.2.2.2.1, q.2.2.2.2.1, jz_same (U := U.calling g mk a) q.2.2.2.2.2.1 rfl, jy_moved (u := U) (U := U.calling g mk a) (Vm.Alike.refl U.vm) q.2.2.2.2.2.2⟩, fun U hU hW => ⟨rfl, by rw [hU], by rw [hU]; exact jw_left hP, va_K.moved hW.alike hK, (jw_leftD hD).weaken (fun _ _ _ _ => trivial), by rw [hU]; exact jz_warm hz hW hS.2.1 hF, jy_moved hW.alike hy⟩⟩ rfl hn hl hst (lv_room hw) hd hc) hP hD hS hA (fun E w1 H1 locs1 q ce h => h.elim) kk
  · intro w hw a' U hW
    rcases List.mem_cons.mp hw with rfl | hw
    · exact word_at hW (good_of_word (jb_g k5)) (C.2.2.2.2.1 _ k5)
    · exact word_at hW (good_of_word (jb_g hw)) (C.2.2.2.2.1 _ hw)
  · have h9 := k6.2.2
    rw [h] at h9
    exact (Option.some.inj h9).symm
theorem jl_topL {x y : Int64} (h : x = y) (k : W p l e R s m args below meth c H locs cells slots Q (F0 m pc ls (.long y :: rest))) : W p l e R s m args below meth c H locs cells slots Q (F0 m pc ls (.long x :: rest)) := h ▸ k
/-- an int of the script -/
theorem jl_sld (hx : p.tables.exec = Jvm.exec) (hb : c.code = cc) {b L : Nat} {xs : Nat → Int32} (hX : va_X b L xs s H0) (hbl : b < H0.size) (hbA : ¬ A b) (hS : va_S A H0 H locs) {i : Nat} (hi : i < L) (hL : L < 2 ^ 31) (hd : decode cc pc = .ok (.iaload, 1))
    (kk : W p l e R s m args below meth c H locs cells slots Q (F0 m (pc + 1) ls (.int (nI (jI (xs i))) :: rest))) : W p l e R s m args below meth c H locs cells slots Q (F0 m pc ls (.int (nI i) :: .ref b :: rest)) :=
  va_sld hx hb hX hbl hbA hS (vp_in_nI hi hL) hd (by
    rw [nI_clamp (by omega)]
    rw [jI_eq] at kk
    exact kk)
/-- an int that isn't 0, as a boolean -/
theorem jl_bool (hx : p.tables.exec = Jvm.exec) (hb : c.code = cc) {n : Nat} (hn : n < 4294967296) (h0 : decode cc pc = .ok (.ifCond .eq 7, 3)) (h1 : decode cc (pc + 3) = .ok (.iconst 1, 1)) (h2 : decode cc (pc + 4) = .ok (.goto 4, 3)) (h3 : decode cc (pc + 7) = .ok (.iconst 0, 1))
    (k : W p l e R s m args below meth c H locs cells slots Q (F0 m (pc + 8) ls (.int (nI (jbo n)) :: rest))) : W p l e R s m args below meth c H locs cells slots Q (F0 m pc ls (.int (nI n) :: rest)) := by
  refine jl_ifeq32 (tgt := pc + 7) hx hb hn h0 (by omega) (fun q => ?_) (fun q => ?_)
  · refine lv_iconst (v := nI 0) hx hb h3 (by decide) ?_
    have e : jbo n = 0 := by simp [jbo, q]
    rw [e] at k
    exact k
  · refine lv_iconst (v := nI 1) hx hb h1 (by decide) ?_
    refine lv_goto (tgt := pc + 8) hx hb h2 (by omega) ?_
    have e : jbo n = 1 := by simp [jbo, q]
    rw [e] at k
    exact k
theorem jl_and15 (hx : p.tables.exec = Jvm.exec) (hb : c.code = cc) {a : Nat} (ha : a < 4294967296) (hd : decode cc pc = .ok (.iand, 1)) (k : W p l e R s m args below meth c H locs cells slots Q (F0 m (pc + 1) ls (.int (nI (a % 16)) :: rest))) : W p l e R s m args below meth c H locs cells slots Q (F0 m pc ls (.int (nI 15) :: .int (nI a) :: rest)) :=
  lv_iand hx hb hd (by rw [pk_andN (n := a) (m := nI 15) (by omega) 4 (by decide)]; exact k)
/-- is there another call in the script -/
theorem jl_gtL (hx : p.tables.exec = Jvm.exec) (hb : c.code = cc) {i L : Nat} {off : Int} {tgt : Nat} (hi : i < 2 ^ 30) (hL : L < 2 ^ 30) (hd : decode cc pc = .ok (.if_icmp .gt off, 3)) (ht : (pc : Int) + off = (tgt : Int)) (kt : L < i + 6 → W p l e R s m args below meth c H locs cells slots Q (F0 m tgt ls rest)) (kf : i + 6 ≤ L → W p l e R s m args below meth c H locs cells slots Q (F0 m (pc + 3) ls rest)) : W p l e R s m args below meth c H locs cells slots Q (F0 m pc ls (.int (nI L - nI 6) :: .int (nI i) :: rest)) := by
  have e1 := pk_sub_toInt hL (show 6 < 2 ^ 30 by decide)
  have e2 : (nI i).toInt = (i : Int) := nI_toInt (by omega)
  refine lv_icmp_gt hx hb hd ht (fun h => kt ?_) (fun h => kf (Nat.not_lt.mp (fun q => h ?_)))
  · rw [Int32.lt_iff_toInt_lt] at h
    omega
  · rw [Int32.lt_iff_toInt_lt]
    omega
end JLC
