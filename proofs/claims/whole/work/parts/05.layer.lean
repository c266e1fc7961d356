/-! My layer over the kit: numbers as Nats in the rows, contracts whose worlds are lists, calls by one row. -/
-- a list of bytes or small numbers as an array's contents
abbrev jn (s : Nat → Nat) : Nat → Int32 := fun k => nI (s k)
def ju (s : Nat → Nat) (a v : Nat) : Nat → Nat := fun k => if k = a then v else s k
theorem jn_upd (s : Nat → Nat) {a : Nat} (v : Nat) (ha : a < 2 ^ 31) : upd (jn s) (nI a).toNatClampNeg (nI v) = jn (ju s a v) := by
  rw [nI_clamp ha]
  funext k
  by_cases h : k = a
  · subst h
    rw [pk_us]
    simp [jn, ju]
  · rw [pk_un h]
    simp [jn, ju, h]
theorem jn_at (s : Nat → Nat) {a : Nat} (ha : a < 2 ^ 31) : jn s (nI a).toNatClampNeg = nI (s a) := by
  show nI (s (nI a).toNatClampNeg) = nI (s a)
  rw [nI_clamp ha]
section JL
variable {p : Program} {l : Launch} {e : Env} {R : Room} {s : State} {m : MethodId} {args : Array Value} {below : List Frame} {meth : Method} {c : Code} {H : Heap} {locs : List Loc} {cells slots : Nat} {Q : State → Prop}
variable {cc : ByteArray} {pc : Nat} {ls : Array Slot} {rest : List Value}
theorem jl_iadd (hx : p.tables.exec = Jvm.exec) (hb : c.code = cc) {a b : Nat} (hd : decode cc pc = .ok (.iadd, 1)) (k : W p l e R s m args below meth c H locs cells slots Q (F0 m (pc + 1) ls (.int (nI (a + b)) :: rest))) : W p l e R s m args below meth c H locs cells slots Q (F0 m pc ls (.int (nI b) :: .int (nI a) :: rest)) :=
  lv_iadd hx hb hd (by rw [nI_add]; exact k)
theorem jl_isub (hx : p.tables.exec = Jvm.exec) (hb : c.code = cc) {a b : Nat} (h : b ≤ a) (hd : decode cc pc = .ok (.isub, 1)) (k : W p l e R s m args below meth c H locs cells slots Q (F0 m (pc + 1) ls (.int (nI (a - b)) :: rest))) : W p l e R s m args below meth c H locs cells slots Q (F0 m pc ls (.int (nI b) :: .int (nI a) :: rest)) :=
  lv_isub hx hb hd (by rw [pk_sub h]; exact k)
theorem jl_imul (hx : p.tables.exec = Jvm.exec) (hb : c.code = cc) {a b : Nat} (hd : decode cc pc = .ok (.imul, 1)) (k : W p l e R s m args below meth c H locs cells slots Q (F0 m (pc + 1) ls (.int (nI (a * b)) :: rest))) : W p l e R s m args below meth c H locs cells slots Q (F0 m pc ls (.int (nI b) :: .int (nI a) :: rest)) :=
  lv_imul hx hb hd (by rw [pk_mul]; exact k)
theorem jl_idiv (hx : p.tables.exec = Jvm.exec) (hb : c.code = cc) {a b : Nat} (ha : a < 2 ^ 31) (h0 : 0 < b) (h1 : b < 2 ^ 31) (hd : decode cc pc = .ok (.idiv, 1)) (k : W p l e R s m args below meth c H locs cells slots Q (F0 m (pc + 1) ls (.int (nI (a / b)) :: rest))) : W p l e R s m args below meth c H locs cells slots Q (F0 m pc ls (.int (nI b) :: .int (nI a) :: rest)) :=
  lv_idiv hx hb hd (nI_ne0 h0 h1) (by rw [pk_div ha h0 h1]; exact k)
theorem jl_irem (hx : p.tables.exec = Jvm.exec) (hb : c.code = cc) {a b : Nat} (ha : a < 2 ^ 31) (h0 : 0 < b) (h1 : b < 2 ^ 31) (hd : decode cc pc = .ok (.irem, 1)) (k : W p l e R s m args below meth c H locs cells slots Q (F0 m (pc + 1) ls (.int (nI (a % b)) :: rest))) : W p l e R s m args below meth c H locs cells slots Q (F0 m pc ls (.int (nI b) :: .int (nI a) :: rest)) :=
  lv_irem hx hb hd (nI_ne0 h0 h1) (by rw [pk_rem ha h0 h1]; exact k)
theorem jl_eq (hx : p.tables.exec = Jvm.exec) (hb : c.code = cc) {a b : Nat} {off : Int} {tgt : Nat} (ha : a < 2 ^ 31) (h1 : b < 2 ^ 31) (hd : decode cc pc = .ok (.if_icmp .eq off, 3)) (ht : (pc : Int) + off = (tgt : Int)) (kt : a = b → W p l e R s m args below meth c H locs cells slots Q (F0 m tgt ls rest)) (kf : ¬ a = b → W p l e R s m args below meth c H locs cells slots Q (F0 m (pc + 3) ls rest)) : W p l e R s m args below meth c H locs cells slots Q (F0 m pc ls (.int (nI b) :: .int (nI a) :: rest)) :=
  lv_icmp_eq hx hb hd ht (fun h => kt ((nI_eq ha h1).mp h)) (fun h => kf (fun q => h ((nI_eq ha h1).mpr q)))
theorem jl_ne (hx : p.tables.exec = Jvm.exec) (hb : c.code = cc) {a b : Nat} {off : Int} {tgt : Nat} (ha : a < 2 ^ 31) (h1 : b < 2 ^ 31) (hd : decode cc pc = .ok (.if_icmp .ne off, 3)) (ht : (pc : Int) + off = (tgt : Int)) (kt : ¬ a = b → W p l e R s m args below meth c H locs cells slots Q (F0 m tgt ls rest)) (kf : a = b → W p l e R s m args below meth c H locs cells slots Q (F0 m (pc + 3) ls rest)) : W p l e R s m args below meth c H locs cells slots Q (F0 m pc ls (.int (nI b) :: .int (nI a) :: rest)) :=
  lv_icmp_ne hx hb hd ht (fun h => kt (fun q => h ((nI_eq ha h1).mpr q))) (fun h => kf ((nI_eq ha h1).mp h))
theorem jl_lt (hx : p.tables.exec = Jvm.exec) (hb : c.code = cc) {a b : Nat} {off : Int} {tgt : Nat} (ha : a < 2 ^ 31) (h1 : b < 2 ^ 31) (hd : decode cc pc = .ok (.if_icmp .lt off, 3)) (ht : (pc : Int) + off = (tgt : Int)) (kt : a < b → W p l e R s m args below meth c H locs cells slots Q (F0 m tgt ls rest)) (kf : ¬ a < b → W p l e R s m args below meth c H locs cells slots Q (F0 m (pc + 3) ls rest)) : W p l e R s m args below meth c H locs cells slots Q (F0 m pc ls (.int (nI b) :: .int (nI a) :: rest)) :=
  lv_icmp_lt hx hb hd ht (fun h => kt ((nI_ltI ha h1).mp h)) (fun h => kf (fun q => h ((nI_ltI ha h1).mpr q)))
theorem jl_ge (hx : p.tables.exec = Jvm.exec) (hb : c.code = cc) {a b : Nat} {off : Int} {tgt : Nat} (ha : a < 2 ^ 31) (h1 : b < 2 ^ 31) (hd : decode cc pc = .ok (.if_icmp .ge off, 3)) (ht : (pc : Int) + off = (tgt : Int)) (kt : ¬ a < b → W p l e R s m args below meth c H locs cells slots Q (F0 m tgt ls rest)) (kf : a < b → W p l e R s m args below meth c H locs cells slots Q (F0 m (pc + 3) ls rest)) : W p l e R s m args below meth c H locs cells slots Q (F0 m pc ls (.int (nI b) :: .int (nI a) :: rest)) :=
  lv_icmp_ge hx hb hd ht (fun h => kt (Nat.not_lt.mpr ((nI_leI h1 ha).mp h))) (fun h => kf (Nat.not_le.mp (fun q => h ((nI_leI h1 ha).mpr q))))
theorem jl_gt (hx : p.tables.exec = Jvm.exec) (hb : c.code = cc) {a b : Nat} {off : Int} {tgt : Nat} (ha : a < 2 ^ 31) (h1 : b < 2 ^ 31) (hd : decode cc pc = .ok (.if_icmp .gt off, 3)) (ht : (pc : Int) + off = (tgt : Int)) (kt : b < a → W p l e R s m args below meth c H locs cells slots Q (F0 m tgt ls rest)) (kf : ¬ b < a → W p l e R s m args below meth c H locs cells slots Q (F0 m (pc + 3) ls rest)) : W p l e R s m args below meth c H locs cells slots Q (F0 m pc ls (.int (nI b) :: .int (nI a) :: rest)) :=
  lv_icmp_gt hx hb hd ht (fun h => kt ((nI_ltI h1 ha).mp h)) (fun h => kf (fun q => h ((nI_ltI h1 ha).mpr q)))
theorem jl_le (hx : p.tables.exec = Jvm.exec) (hb : c.code = cc) {a b : Nat} {off : Int} {tgt : Nat} (ha : a < 2 ^ 31) (h1 : b < 2 ^ 31) (hd : decode cc pc = .ok (.if_icmp .le off, 3)) (ht : (pc : Int) + off = (tgt : Int)) (kt : ¬ b < a → W p l e R s m args below meth c H locs cells slots Q (F0 m tgt ls rest)) (kf : b < a → W p l e R s m args below meth c H locs cells slots Q (F0 m (pc + 3) ls rest)) : W p l e R s m args below meth c H locs cells slots Q (F0 m pc ls (.int (nI b) :: .int (nI a) :: rest)) :=
  lv_icmp_le hx hb hd ht (fun h => kt (Nat.not_lt.mpr ((nI_leI ha h1).mp h))) (fun h => kf (Nat.not_le.mp (fun q => h ((nI_leI ha h1).mpr q))))
theorem jl_ifeq (hx : p.tables.exec = Jvm.exec) (hb : c.code = cc) {a : Nat} {off : Int} {tgt : Nat} (ha : a < 2 ^ 31) (hd : decode cc pc = .ok (.ifCond .eq off, 3)) (ht : (pc : Int) + off = (tgt : Int)) (kt : a = 0 → W p l e R s m args below meth c H locs cells slots Q (F0 m tgt ls rest)) (kf : ¬ a = 0 → W p l e R s m args below meth c H locs cells slots Q (F0 m (pc + 3) ls rest)) : W p l e R s m args below meth c H locs cells slots Q (F0 m pc ls (.int (nI a) :: rest)) :=
  lv_if_eq hx hb hd ht (fun h => kt ((nI_eq ha (by decide)).mp (h.trans nI_0.symm))) (fun h => kf (fun q => h (by rw [q]; exact nI_0)))
theorem jl_ifne (hx : p.tables.exec = Jvm.exec) (hb : c.code = cc) {a : Nat} {off : Int} {tgt : Nat} (ha : a < 2 ^ 31) (hd : decode cc pc = .ok (.ifCond .ne off, 3)) (ht : (pc : Int) + off = (tgt : Int)) (kt : ¬ a = 0 → W p l e R s m args below meth c H locs cells slots Q (F0 m tgt ls rest)) (kf : a = 0 → W p l e R s m args below meth c H locs cells slots Q (F0 m (pc + 3) ls rest)) : W p l e R s m args below meth c H locs cells slots Q (F0 m pc ls (.int (nI a) :: rest)) :=
  lv_if_ne hx hb hd ht (fun h => kt (fun q => h (by rw [q]; exact nI_0))) (fun h => kf ((nI_eq ha (by decide)).mp (h.trans nI_0.symm)))
/-- a Nat is not below 0 -/
theorem jl_iflt (hx : p.tables.exec = Jvm.exec) (hb : c.code = cc) {a : Nat} {off : Int} {tgt : Nat} (ha : a < 2 ^ 31) (hd : decode cc pc = .ok (.ifCond .lt off, 3)) (ht : (pc : Int) + off = (tgt : Int)) (kf : W p l e R s m args below meth c H locs cells slots Q (F0 m (pc + 3) ls rest)) : W p l e R s m args below meth c H locs cells slots Q (F0 m pc ls (.int (nI a) :: rest)) :=
  lv_if_lt hx hb hd ht (fun h => absurd h (nI_pos ha)) (fun _ => kf)
theorem jl_ifge (hx : p.tables.exec = Jvm.exec) (hb : c.code = cc) {a : Nat} {off : Int} {tgt : Nat} (ha : a < 2 ^ 31) (hd : decode cc pc = .ok (.ifCond .ge off, 3)) (ht : (pc : Int) + off = (tgt : Int)) (kt : W p l e R s m args below meth c H locs cells slots Q (F0 m tgt ls rest)) : W p l e R s m args below meth c H locs cells slots Q (F0 m pc ls (.int (nI a) :: rest)) :=
  lv_if_ge hx hb hd ht (fun _ => kt) (fun h => absurd (nI_pos' ha) h)
theorem jl_ifle (hx : p.tables.exec = Jvm.exec) (hb : c.code = cc) {a : Nat} {off : Int} {tgt : Nat} (ha : a < 2 ^ 31) (hd : decode cc pc = .ok (.ifCond .le off, 3)) (ht : (pc : Int) + off = (tgt : Int)) (kt : a = 0 → W p l e R s m args below meth c H locs cells slots Q (F0 m tgt ls rest)) (kf : ¬ a = 0 → W p l e R s m args below meth c H locs cells slots Q (F0 m (pc + 3) ls rest)) : W p l e R s m args below meth c H locs cells slots Q (F0 m pc ls (.int (nI a) :: rest)) :=
  lv_if_le hx hb hd ht (fun h => kt (Nat.eq_zero_of_not_pos (fun q => nI_nle q ha h))) (fun h => kf (fun q => h (by rw [q, nI_0]; exact Int32.le_refl 0)))
theorem jl_ifgt (hx : p.tables.exec = Jvm.exec) (hb : c.code = cc) {a : Nat} {off : Int} {tgt : Nat} (ha : a < 2 ^ 31) (hd : decode cc pc = .ok (.ifCond .gt off, 3)) (ht : (pc : Int) + off = (tgt : Int)) (kt : ¬ a = 0 → W p l e R s m args below meth c H locs cells slots Q (F0 m tgt ls rest)) (kf : a = 0 → W p l e R s m args below meth c H locs cells slots Q (F0 m (pc + 3) ls rest)) : W p l e R s m args below meth c H locs cells slots Q (F0 m pc ls (.int (nI a) :: rest)) :=
  lv_if_gt hx hb hd ht (fun h => kt (fun q => by rw [q, nI_0] at h; exact absurd h (by decide))) (fun h => kf (Nat.eq_zero_of_not_pos (fun q => h (by rw [← nI_0]; exact nI_lt q ha))))
theorem jl_iinc (hx : p.tables.exec = Jvm.exec) (hb : c.code = cc) {i nL k a : Nat} {lv lv' : List (Nat × Value)} (hd : decode cc pc = .ok (.iinc i 1, 3)) (h : lv_has ls nL lv) (hk : lv[k]? = some (i, .int (nI a))) (hn : i < nL) (hl : (i, Value.int (nI (a + 1))) :: lv.filter (fun q => !(q.1 == i) && !(q.1 + 1 == i && q.2.category == 2)) = lv')
    (kk : ∀ ls', lv_has ls' nL lv' → W p l e R s m args below meth c H locs cells slots Q (F0 m (pc + 3) ls' rest)) : W p l e R s m args below meth c H locs cells slots Q (F0 m pc ls rest) :=
  lv_iinc (v := nI (a + 1)) hx hb hd h hk (by rw [nI_succ]; rfl) hn hl kk
end JL
-- what a walk keeps at hand: the machine, the code, its class, the words, what it answers
def jx (p : Program) (s : State) (m : MethodId) (args : Array Value) (meth : Method) (c : Code) (own : String) (cc : ByteArray) (nL : Nat) (ret : Option FieldType) : Prop :=
  p.tables.exec = Jvm.exec ∧ c.code = cc ∧ c.maxLocals = nL ∧ s.vm.findClass own = some m.cls ∧ (∀ w ∈ jb, w.before args s = true) ∧ meth.sig.returnType = ret ∧ meth.locks = false
/-- a method that only reads, and answers v -/
def jr (l : Launch) (y : MethodName) (cw : Cond) (rm : Room) (G : va_G) (tys : List (ClassId × FieldType)) (ws : va_W) (As : List Value) (v : Int32) : Prop :=
  Met l y (cw :: jb) rm (va_Pc As (fun U => va_P G jcl ws U.heap ∧ va_K G jcl tys U)) (vp_Si (fun r => r = v)) 0 0 (fun _ => False)
/-- where such a method's walk has to come -/
abbrev jr_Q (below : List Frame) (As : List Value) (s : State) (v : Int32) : State → Prop := MQ below (vp_Si (fun r => r = v)) As.toArray s 0 0 (fun _ => False)
theorem jr_of {l : Launch} {y : MethodName} {cc : ByteArray} {nL : Nat} {ret : Option FieldType} {rm : Room} {G : va_G} {tys : List (ClassId × FieldType)} {ws : va_W} {As : List Value} {v : Int32}
    (hy : plainName y.cls = true) (hn : (lg_sl As).length ≤ nL)
    (body : ∀ (p : Program) (e : Env) (s : State) (m : MethodId) (below : List Frame) (meth : Method) (c : Code) (ls : Array Slot), jx p s m As.toArray meth c y.cls cc nL ret → va_P G jcl ws s.heap → va_K G jcl tys s → lv_has ls nL (lv_args 0 As) →
      W p l e rm s m As.toArray below meth c s.heap [] 0 0 (jr_Q below As s v) (F0 m 0 ls [])) : jr l y (.code y cc nL ret) rm G tys ws As v := by
  refine Met.ofW (cc := cc) (maxL := nL) (ret := ret) hy rfl ?_
  intro p e s m args below meth c s₁ B hml hv
  obtain ⟨rfl, hP, hK⟩ := hv
  have hts := atoms_spec (ws := Cond.code y cc nL ret :: jb) B.pre
  have hl := lv_entry As (n := nL) hn
  rw [lg_entry_eq]
  exact body p e s m below meth c _ ⟨B.exec, B.bytes, hml, findClass_of_methodNamed B.named, fun w h => hts w (List.mem_cons_of_mem _ h), B.returns, B.notSynchronized⟩ hP hK hl
section JR
variable {p : Program} {l : Launch} {e : Env} {R : Room} {s : State} {m : MethodId} {args : Array Value} {below : List Frame} {meth : Method} {c : Code} {H : Heap} {locs : List Loc} {cells slots : Nat} {Q : State → Prop}
variable {cc : ByteArray} {pc nL : Nat} {ls : Array Slot} {rest : List Value} {own : String} {ret : Option FieldType} {G : va_G} {tys : List (ClassId × FieldType)}
theorem jr_ret {As : List Value} {v w : Int32} (C : jx p s m As.toArray meth c own cc nL (some .int)) (hv : w = v) (hd : decode cc pc = .ok (.ireturn, 1)) : W p l e R s m As.toArray below meth c s.heap [] 0 0 (jr_Q below As s v) (F0 m pc ls [.int w]) :=
  W.iret (v := w) C.1 C.2.1 C.2.2.2.2.2.1 (fun t ht _ => ⟨w, rfl, hv, ht⟩) (fun q h => by cases h) hd C.2.2.2.2.2.2
theorem jr_retz {As : List Value} {v w : Int32} (C : jx p s m As.toArray meth c own cc nL (some .boolean)) (hn : narrow .boolean (.int w) = .int w) (hv : w = v) (hd : decode cc pc = .ok (.ireturn, 1)) : W p l e R s m As.toArray below meth c s.heap [] 0 0 (jr_Q below As s v) (F0 m pc ls [.int w]) :=
  W.zret (v := w) C.1 C.2.1 C.2.2.2.2.2.1 hn (fun t ht _ => ⟨w, rfl, hv, ht⟩) (fun q h => by cases h) hd C.2.2.2.2.2.2
/-- a call of a reading method on an object -/
theorem jr_callV {index : Nat} {y : MethodName} {bytes : ByteArray} {maxL n : Nat} {rt : Option FieldType} {rm : Room} {tys' : List (ClassId × FieldType)} {ws' : va_W} {b : Addr} {As : List Value} {v : Int32}
    (C : jx p s m args meth c own cc nL ret) (hM : jr l y (.code y bytes maxL rt) rm G tys' ws' (.ref b :: As) v) (kl : jc_V own index y bytes maxL rt n)
    (hR : rm.frames + 1 ≤ R.frames ∧ 8 + (maxL + 11) + rm.locals ≤ R.locals ∧ rm.cells = 0 ∧ rm.slots = 0) (hc : cells ≤ R.cells ∧ slots ≤ R.slots)
    (hP : va_P G jcl ws' H) (hK : va_K G jcl tys' s) (hv : ∃ cell : Cell, H[b]? = some cell ∧ cell.vm.isStatics = false ∧ s.vm.findClass y.cls = some cell.cls)
    (hl : ls.size = nL) (hn : As.length = n) {st : List Value} (hst : st = As.reverse ++ .ref b :: rest) (hw : (rest.map fun v => v.category).sum ≤ 8) (hd : decode cc pc = .ok (.invokevirtual index, 3))
    (kk : W p l e R s m args below meth c H locs cells slots Q (F0 m (pc + 3) ls (.int v :: rest))) : W p l e R s m args below meth c H locs cells slots Q (F0 m pc ls st) := by
  obtain ⟨k1, k2, k3, k4, k5, k6⟩ := kl
  refine vp_callSi (va_Run.run (va_runV (As := As) (rest := rest) (Ts := jb) ⟨C.1, C.2.1, C.2.2.1, C.2.2.2.1, C.2.2.2.2.1⟩ hM
    ⟨⟨hR.2.2.1, hR.2.2.2, hR.1, hR.2.1, ?_, List.mem_cons_self, C.2.2.2.2.1 _ k5, C.2.2.2.2.1 _ k4, ⟨k6.1, k6.2.1⟩, fun sig h => ?_, C.2.2.2.2.1 _ k1⟩, C.2.2.2.2.1 _ k2, C.2.2.2.2.1 _ k3⟩
    ⟨fun a U g mk q => ⟨q.1, q.2.1, va_K.moved (u := U) (U := U.calling g mk a) (Vm.Alike.refl U.vm) q.2.2⟩, hv, fun U hU hW => ⟨rfl, by rw [hU]; exact hP, va_K.moved hW.alike hK⟩⟩ rfl hn hl hst (lv_room hw) hd ⟨hc.1, hc.2⟩)) (fun r hr => by rw [hr]; exact kk)
  · intro w hw a' U hW
    rcases List.mem_cons.mp hw with rfl | hw
    · exact word_at hW (good_of_word (jb_g k5)) (C.2.2.2.2.1 _ k5)
    · exact word_at hW (good_of_word (jb_g hw)) (C.2.2.2.2.1 _ hw)
  · have h9 := k6.2.2
    rw [h] at h9
    exact (Option.some.inj h9).symm
/-- a call of a reading static method -/
theorem jr_callS {index : Nat} {y : MethodName} {bytes : ByteArray} {maxL n : Nat} {rt : Option FieldType} {rm : Room} {tys' : List (ClassId × FieldType)} {ws' : va_W} {As : List Value} {v : Int32}
    (C : jx p s m args meth c own cc nL ret) (hM : jr l y (.code y bytes maxL rt) rm G tys' ws' As v) (kl : jc_S own index y bytes maxL rt n)
    (hR : rm.frames + 1 ≤ R.frames ∧ 8 + (maxL + 11) + rm.locals ≤ R.locals ∧ rm.cells = 0 ∧ rm.slots = 0) (hc : cells ≤ R.cells ∧ slots ≤ R.slots)
    (hP : va_P G jcl ws' H) (hK : va_K G jcl tys' s)
    (hl : ls.size = nL) (hn : As.length = n) {st : List Value} (hst : st = As.reverse ++ rest) (hw : (rest.map fun v => v.category).sum ≤ 8) (hd : decode cc pc = .ok (.invokestatic index, 3))
    (kk : W p l e R s m args below meth c H locs cells slots Q (F0 m (pc + 3) ls (.int v :: rest))) : W p l e R s m args below meth c H locs cells slots Q (F0 m pc ls st) := by
  obtain ⟨k1, k2, k4, k5, k6⟩ := kl
  refine vp_callSi (va_Run.run (va_runS (As := As) (rest := rest) (Ts := jb) ⟨C.1, C.2.1, C.2.2.1, C.2.2.2.1, C.2.2.2.2.1⟩ hM
    ⟨⟨hR.2.2.1, hR.2.2.2, hR.1, hR.2.1, ?_, List.mem_cons_self, C.2.2.2.2.1 _ k5, C.2.2.2.2.1 _ k4, ⟨k6.1, k6.2.1⟩, fun sig h => ?_, C.2.2.2.2.1 _ k1⟩, C.2.2.2.2.1 _ k2⟩
    ⟨fun a U g mk q => ⟨q.1, q.2.1, va_K.moved (u := U) (U := U.calling g mk a) (Vm.Alike.refl U.vm) q.2.2⟩, fun U hU hW => ⟨rfl, by rw [hU]; exact hP, va_K.moved hW.alike hK⟩⟩ rfl hn hl hst (lv_room hw) hd ⟨hc.1, hc.2⟩)) (fun r hr => by rw [hr]; exact kk)
  · intro w hw a' U hW
    rcases List.mem_cons.mp hw with rfl | hw
    · exact word_at hW (good_of_word (jb_g k5)) (C.2.2.2.2.1 _ k5)
    · exact word_at hW (good_of_word (jb_g hw)) (C.2.2.2.2.1 _ hw)
  · have h9 := k6.2.2
    rw [h] at h9
    exact (Option.some.inj h9).symm
end JR
