abbrev jq_rx : ByteArray := prog_16_method_4_code
theorem jq_d0 : decode jq_rx 0 = .ok (.aload_n 0, 1) := by decide +kernel
theorem jq_d1 : decode jq_rx 1 = .ok (.aload_n 1, 1) := by decide +kernel
theorem jq_d2 : decode jq_rx 2 = .ok (.invokespecial 13, 3) := by decide +kernel
theorem jq_d5 : decode jq_rx 5 = .ok (.return_, 1) := by decide +kernel
theorem tk_NSE : Cond.classLink cn_J 72 "java/util/NoSuchElementException" ∈ jb := jb_t (List.mem_append_right _ (List.mem_append_left _ (List.mem_of_getElem? (i := 81) rfl))) rfl
theorem ti_NSE : Cond.initialized "java/util/NoSuchElementException" ∈ jb := jb_t (List.mem_append_left _ (List.mem_of_getElem? (i := 12) rfl)) rfl
theorem tg_NSE : ∀ w ∈ ((jq_at cn_J 76 "java/util/NoSuchElementException" 13 jq_rx).filter vx_no).filter goodWord, w ∈ jb := fun w hw => List.mem_filter.mpr ⟨(by decide +kernel : ∀ w ∈ ((jq_at cn_J 76 "java/util/NoSuchElementException" 13 jq_rx).filter vx_no).filter goodWord, w ∈ lw_tbl) w hw, (List.mem_filter.mp hw).2⟩
theorem tb_NSE : ∀ w ∈ ((jq_at cn_J 76 "java/util/NoSuchElementException" 13 jq_rx).filter vx_no).filter (fun w => !goodWord w), w ∈ jzl := by decide +kernel
theorem to_NSE : ∀ w ∈ Cond.classLink cn_J 72 "java/util/NoSuchElementException" :: Cond.initialized "java/util/NoSuchElementException" :: ((jq_at cn_J 76 "java/util/NoSuchElementException" 13 jq_rx).filter vx_no), vx_ot w = true := by decide +kernel
set_option maxHeartbeats 4000000 in
theorem tt_NSES {p : Program} {l : Launch} {e : Env} {R : Room} {s : State} {m : MethodId} {below : List Frame} {meth : Method} {c : Code} {H : Heap} {locs : List Loc} {cells slots : Nat} {cc : ByteArray} {pc nL : Nat} {ls : Array Slot} {rest : List Value} {ret : Option FieldType} {G : va_G} {tys : List (ClassId × FieldType)} {A : Nat → Prop} {ws' : va_W} {As : List Value} {rm : Room} {Ok : Option Value → va_W → Prop} {Ex : String → va_W → Prop} {is : Nat} {text : String}
    (hl9 : l.stackTraces = false) (htb : ∀ x ∈ c.exceptionTable.toList, False) (C : jx p s m As.toArray meth c cn_J cc nL ret) (hz : jz A s s.heap) (hs : (is, text) ∈ jzs) (ho : Ex "java/util/NoSuchElementException" ws') (hP : va_P G jcl ws' H) (hD : va_D A ws') (hK : va_K G jcl tys s) (hS : va_S A s.heap H locs) (hl : ls.size = nL)
    (d0 : decode cc pc = .ok (.new 72, 3)) (d3 : decode cc (pc + 3) = .ok (.dup, 1)) (d4 : decode cc (pc + 4) = .ok (.ldc is, 2)) (d6 : decode cc (pc + 6) = .ok (.invokespecial 76, 3)) (d9 : decode cc (pc + 9) = .ok (.athrow, 1))
    (hR : 5 < R.frames ∧ (rest.map fun v => v.category).sum + 82 ≤ R.locals ∧ cells + 1 ≤ R.cells ∧ slots + 6 ≤ R.slots) (hc : cells + 1 ≤ rm.cells ∧ slots + 6 ≤ rm.slots) :
    W p l e R s m As.toArray below meth c H locs cells slots (jt_Q below rm G tys A As s Ok Ex) (F0 m pc ls rest) := by
  obtain ⟨sa, hsa⟩ := hz.2.1 _ hs
  have hat : ∀ w ∈ ((jq_at cn_J 76 "java/util/NoSuchElementException" 13 jq_rx).filter vx_no), w.before As.toArray s = true := vx_hat (fun w hw => C.2.2.2.2.1 w (tg_NSE w hw)) tb_NSE (fun w hw => va_Nw.use (by
      simp only [jzl, List.mem_cons, List.not_mem_nil, or_false] at hw
      rcases hw with rfl | rfl | rfl | rfl | rfl | rfl | rfl <;> rfl) (hz.1 w hw))
  intro T hT X
  have htr : e.platform.stackTraces = false := (show e.platform.stackTraces = l.stackTraces by rw [X.admits.platform]).trans hl9
  have Y := vx_rebase X (R' := { frames := R.frames, locals := R.locals, cells := 1, slots := 6 }) (Nat.le_refl _) (Nat.le_refl _) hR.2.2.1 hR.2.2.2
  obtain ⟨s', hE⟩ : ∃ z, z = (T.setVm s.vm).setFrames (.invoking m As.toArray :: below) := ⟨_, rfl⟩
  rw [← hE] at Y
  have hvm : s'.vm = s.vm := by rw [hE]; rfl
  have hhp : s'.heap = H := by rw [hE]; exact hT
  have hW0 : s.WarmedH s'.vm := by rw [hvm]; exact State.WarmedH.refl s
  have hat' : ∀ w ∈ ((jq_at cn_J 76 "java/util/NoSuchElementException" 13 jq_rx).filter vx_no), w.before As.toArray s' = true := fun w hw => vx_ot_at hW0 hvm.symm (to_NSE w (List.mem_cons_of_mem _ (List.mem_cons_of_mem _ hw))) (hat w hw)
  have hk' : (Cond.classLink cn_J 72 "java/util/NoSuchElementException").before As.toArray s' = true := vx_ot_at hW0 hvm.symm (to_NSE _ List.mem_cons_self) (C.2.2.2.2.1 _ tk_NSE)
  have hini' : (Cond.initialized "java/util/NoSuchElementException").before As.toArray s' = true := vx_ot_at hW0 hvm.symm (to_NSE _ (List.mem_cons_of_mem _ List.mem_cons_self)) (C.2.2.2.2.1 _ ti_NSE)
  have hU' : vx_Zq Bundle.tN "UNASSIGNED_STACK" Bundle.steD A s' s'.heap := by rw [hhp]; exact vx_Zq.moved hW0.alike (hz.2.2.1.kept hS.2.1)
  have hN' : vx_Zq Bundle.tN "SUPPRESSED_SENTINEL" Bundle.listD A s' s'.heap := by rw [hhp]; exact vx_Zq.moved hW0.alike (hz.2.2.2.kept hS.2.1)
  have h : ∀ w ∈ jq_at cn_J 76 "java/util/NoSuchElementException" 13 jq_rx, w.before As.toArray s' = true := vx_own hat' (vx_isRefq hU'.1) (vx_isRefq hN'.1) hU'.2.word hN'.2.word
  have hown' : s'.vm.findClass cn_J = some m.cls := by rw [hvm]; exact C.2.2.2.1
  have hins : (Cond.instantiable "java/util/NoSuchElementException" 6).before As.toArray s' = true := h _ (by simp [jq_at])
  obtain ⟨vm₁, cX, kX, hfX, hkX, -, -, X₁, st1⟩ := Y.newCold C.1 (own := cn_J) (C := "java/util/NoSuchElementException") (index := 72) (n := 6) hown' hk' hins hini'
    (g := F0 m pc ls rest) rfl (by rw [C.2.1]; exact d0) (Nat.le_refl _) (Nat.le_refl _)
  generalize hT1 : (T.setVm vm₁).pushCell { cls := cX, slots := kX.instanceTypes.map defaultValue, vm := .none } = T1 at X₁ st1
  have hcat : (Value.ref T.heap.size).category = 1 := rfl
  have hcellA : T1.heap[T.heap.size]? = some (freshCell cX kX) := by rw [← hT1]; exact State.heap_pushCell_size _ _
  have d3' : decode c.code (pc + 3) = .ok (.dup, 1) := by rw [C.2.1]; exact d3
  have d4' : decode c.code (pc + 4) = .ok (.ldc is, 2) := by rw [C.2.1]; exact d4
  have hstr' : vk_R cn_J is text sa s' := vk_R.warm hW0 hsa
  have hexec := C.1
  obtain ⟨U, hsteps, hrun, hend, hW, hsame, ce, hce, hcv, hcl0⟩ := jq_ctor X₁ C.1 htr jq_d0 jq_d1 jq_d2 jq_d5 (own := cn_J) (cls := "java/util/NoSuchElementException") (ic := 76) hown' (by decide +kernel) h hfX hkX hcellA (by rw [hhp, hT]; exact Nat.le_refl _) (msg := .ref sa) rfl
    (g := { method := m, pc := pc + 6, locals := ls, stack := .ref sa :: .ref T.heap.size :: .ref T.heap.size :: rest, locked := none }) rfl (hl.trans C.2.2.1.symm) rfl rfl (rest := rest) rfl
    (by rw [C.2.1]; exact d6) (by rw [C.2.1]; exact d9) (fun x hx => (htb x hx).elim) hR.1 (by have h9 := hR.2.1; simp only [List.map_cons, List.sum_cons, hcat]; show 2 * 0 + _ + 81 ≤ R.locals; omega) C.2.2.2.2.2.2
  obtain ⟨f1, f2⟩ := vx_frame hsame
  rw [hhp] at f1 f2
  have hWs : s.WarmedH U.vm := State.WarmedH.trans hW0 hW
  have hcl : s.vm.findClass "java/util/NoSuchElementException" = some ce.cls := by rw [← hvm]; exact hcl0
  have hall : s.sameButNew ({ U with vm := s.vm } : State) locs rm.cells rm.slots := by
    subst hE
    obtain ⟨e1, e2⟩ := hsame
    rw [State.setFrames_setFrames] at e1
    have h2 : (T.setVm s.vm).sameButNew ({ U with vm := s.vm } : State) [] (0 + 1) (0 + 6) := ⟨e1, e2⟩
    have h3 := X.same.trans h2
    rw [List.append_nil] at h3
    exact h3.mono hc.1 hc.2
  have hxx : jt_X G tys A Ex "java/util/NoSuchElementException" s U := ⟨ws', ho, hP.kept (fun k q hq => f2 q.1 (hP k q hq).lt (fun z hz => nomatch hz)), va_K.moved hWs.alike hK, hD, Nat.le_trans hS.1 f1, fun q h1 h2 => (f2 q (Nat.lt_of_lt_of_le h1 hS.1) (fun z hz => nomatch hz)).trans (hS.2.1 q h1 h2)⟩
  refine ⟨U, ?_, .threw T.heap.size, hrun, hend, Or.inr ⟨T.heap.size, rfl, "java/util/NoSuchElementException", ce, locs, hxx, hce, hcv, hcl, hWs, hall, hS.2.2⟩⟩
  refine st1 _ ?_
  show Steps p.tables e below (T1.setTop { method := m, pc := pc + 3, locals := ls, stack := .ref T.heap.size :: rest, locked := none }) _
  jvm_step X₁.here [X₁.here.top, hexec, d3', Value.category]
  exact X₁.ldcString hexec (own := cn_J) (text := text) (index := is) (a := sa) hown' hstr'.1 hstr'.2
    (g := { method := m, pc := pc + 4, locals := ls, stack := .ref T.heap.size :: .ref T.heap.size :: rest, locked := none }) rfl d4' _ hsteps
