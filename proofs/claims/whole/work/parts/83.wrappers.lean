/-! the law's wrappers: their tables of catches, their contracts -/
theorem tc_L_1 : Cond.classLink cn_L 13 "java/lang/IllegalArgumentException" ∈ jb := jb_t (List.mem_append_left _ (List.mem_of_getElem? (i := 190) rfl)) rfl
theorem tc_L_2 : Cond.classLink cn_L 15 "java/util/NoSuchElementException" ∈ jb := jb_t (List.mem_append_left _ (List.mem_of_getElem? (i := 191) rfl)) rfl
theorem tc_L_3 : Cond.classLink cn_L 17 "java/lang/IllegalStateException" ∈ jb := jb_t (List.mem_append_left _ (List.mem_of_getElem? (i := 192) rfl)) rfl
theorem tc_L_4 : Cond.classLink cn_L 19 "java/lang/UnsupportedOperationException" ∈ jb := jb_t (List.mem_append_left _ (List.mem_of_getElem? (i := 193) rfl)) rfl
theorem jk_nextv {s : Nat → Nat} (hs : jf_ok s) (a b : Nat) (q : Nat) : (if a < b then jf_entryName s q a else 0) < 2 ^ 31 := by
  have := jf_get_lt hs (jf_placeOf s q (a * 2))
  unfold jf_entryName jf_byteOf
  split <;> omega
theorem jk_statv {s : Nat → Nat} (hs : jf_ok s) (u z : Nat) : jf_statR s ((jf_inodeAt s u).getD 0) z < 2 ^ 31 := by
  have h1 := jf_getD_lt hs u
  have h2 := jf_entries_lt hs ((jf_inodeAt s u).getD 0)
  have h3 := jf_get_lt hs (16 + ((jf_inodeAt s u).getD 0) * 8 + 0)
  have h4 := jf_get_lt hs (16 + ((jf_inodeAt s u).getD 0) * 8 + 1)
  have h5 := jf_get_lt hs (16 + ((jf_inodeAt s u).getD 0) * 8 + 3)
  unfold jf_statR jf_kind jf_size jf_gen jf_field
  repeat' split
  all_goals omega
theorem jk_commitv (s c : Nat → Nat) : jf_cmJ (jf_differing s c) + jf_differing s c < 2 ^ 31 := by
  have := jf_differing_le s c
  unfold jf_cmJ
  split <;> omega
theorem jk_blockv {s c : Nat → Nat} (hs : jf_ok s) (hc : jf_ok c) (a q : Nat) : (if q = 0 then jf_get s a else jf_get c a) < 2 ^ 31 := by
  have := jf_get_lt hs a
  have := jf_get_lt hc a
  split <;> omega
abbrev hh_L_directory : List (Nat × Nat × Nat × Nat) := [(0, 9, 12, 13), (0, 9, 15, 15), (0, 9, 18, 17), (0, 9, 21, 19)]
theorem kw_L_directory : jc_L cn_L 72 yn_L_directory cd_L_directory 4 (some .int) hh_L_directory 3 := ⟨jb_t (List.mem_append_left _ (List.mem_of_getElem? (i := 187) rfl)) rfl, jb_t (List.mem_append_left _ (List.mem_of_getElem? (i := 188) rfl)) rfl, tw_0, jb_t (List.mem_append_left _ (List.mem_of_getElem? (i := 189) rfl)) rfl, by decide +kernel⟩
set_option maxHeartbeats 4000000 in
set_option maxRecDepth 100000 in
theorem ct_L_directory (l : Launch) (hl9 : l.stackTraces = false) (G : va_G) (qJ : Nat) (qH : Nat) (qh : Nat → Nat) (cH : ClassId) (qI : Nat) (qD : Nat) (qS : Nat) (qC : Nat) (cS : ClassId) (cC : ClassId) (s : Nat → Nat) (c : Nat → Nat) (ho : Nat → Nat) (hn : Nat → Nat) (hg : Nat → Nat) (hm : Nat → Nat) (hp : Nat → Nat) (wc : Nat) (wd : Nat) (tf : Nat) (qw : Nat) (cw : ClassId) (fw : Nat → Int64) (u : Nat) (hu0 : u < 4294967296) (hs : jf_ok s) : jL l yn_L_directory cd_L_directory 4 (some .int) hh_L_directory { frames := 8, cells := 4, slots := 24, locals := 178 } G (tJ cS cC cH ++ [(cw, .long)]) ((wJ qJ qH qh cH qI qD qS qC cS cC s c ho hn hg hm hp wc wd tf) ++ [(qw, .inl (cw, 1, .inr (.inl fw)))]) [.ref qJ, .int (nI (u)), .ref qw] (fun o w => (((jf_dirT s u)) = 0 ∧ o = some (.int (nI 0)) ∧ w = (wJ qJ qH qh cH qI qD qS qC cS cC (jf_new s ((jf_inodeAt s (u / 2 ^ 8)).getD 0) (u % 256) 2) c ho hn hg hm hp wc wd tf) ++ [(qw, .inl (cw, 1, .inr (.inl (vp_updL fw (nI 0).toNatClampNeg (lN (((jf_leastFree s).getD 0)))))))]) ∨ (¬ ((jf_dirT s u)) = 0 ∧ o = some (.int (nI ((jf_dirT s u)))) ∧ w = (wJ qJ qH qh cH qI qD qS qC cS cC s c ho hn hg hm hp wc wd tf) ++ [(qw, .inl (cw, 1, .inr (.inl fw)))])) := by
  refine jL_of (by decide) (Nat.le_of_ble_eq_true rfl) ?_
  intro pr en σ mi bel met cd ls A hA C htb hz hy hP hK hD hS hl
  have hx := C.1
  have hb := C.2.1
  have hown := C.2.2.2.1
  have hts := C.2.2.2.2.1
  have hl : lv_has ls 4 [(0, .ref qJ), (1, .int (nI (u))), (2, .ref qw)] := hl
  refine lv_aload_n hx hb dd_L_directory_0 rfl (lv_at hl 2 rfl) ?_
  refine lv_iconst (v := nI 0) hx hb dd_L_directory_1 (by decide) ?_
  refine lv_aload_n hx hb dd_L_directory_2 rfl (lv_at hl 0 rfl) ?_
  refine lv_iload_n hx hb dd_L_directory_3 rfl (lv_at hl 1 rfl) ?_
  refine jt_callV (wr := [(qw, .inl (cw, 1, .inr (.inl fw)))]) C hz (ct_J_directory l hl9 G qJ qH qh cH qI qD qS qC cS cC s c ho hn hg hm hp wc wd tf u hu0 hs) kl_L_7 ⟨Nat.le_of_ble_eq_true rfl, Nat.le_of_ble_eq_true rfl⟩ ⟨Nat.le_of_ble_eq_true rfl, Nat.le_of_ble_eq_true rfl⟩ hP hD hS hA (hK.sub [0, 1, 2] rfl) (va_recv hK hP (ci := 3) (q0 := 4) rfl rfl) hl.1 rfl rfl (Nat.le_of_ble_eq_true rfl) dd_L_directory_4 (fun E w1 H locs q9 ce hxx hP hD hS g1 g2 g3 => ?_) (fun o w1 H locs hxx hP hD hS => ?_)
  · obtain ⟨h0, rfl, rfl⟩ := hxx
    rcases jk_dir s u with h9 | h9 | h9 | h9 | h9
    · exact absurd h9 h0
    · have hE : jex ((jf_dirT s u)) = "java/lang/IllegalArgumentException" := by rw [h9]; rfl
      rw [hE] at g3
      refine vx_catch (own := cn_L) (name := "java/lang/IllegalArgumentException") (E := "java/lang/IllegalArgumentException") hown [] ⟨0, 9, 12, 13⟩ [⟨0, 9, 15, 15⟩, ⟨0, 9, 18, 17⟩, ⟨0, 9, 21, 19⟩] (htb.trans rfl) (fun _ h => absurd h List.not_mem_nil) rfl (by decide) (hts _ tc_L_1) (va_Nw.use rfl (hz.1 _ (by simp [jzl]))) g1 g2 g3 ?_
      refine lv_astore_n (lv' := [(3, .ref q9), (0, .ref qJ), (1, .int (nI (u))), (2, .ref qw)]) hx hb dd_L_directory_12 rfl hl (by decide) rfl (fun ls hl => ?_)
      refine lv_iconst (v := nI 1) hx hb dd_L_directory_13 (by decide) ?_
      exact jt_reti C (Or.inr ⟨h0, by rw [h9], rfl⟩) hP hD hK hS ⟨Nat.le_of_ble_eq_true rfl, Nat.le_of_ble_eq_true rfl⟩ dd_L_directory_14
    · have hE : jex ((jf_dirT s u)) = "java/util/NoSuchElementException" := by rw [h9]; rfl
      rw [hE] at g3
      refine vx_catch (own := cn_L) (name := "java/util/NoSuchElementException") (E := "java/util/NoSuchElementException") hown [⟨0, 9, 12, 13⟩] ⟨0, 9, 15, 15⟩ [⟨0, 9, 18, 17⟩, ⟨0, 9, 21, 19⟩] (htb.trans rfl) (List.forall_mem_cons.mpr ⟨Or.inr ⟨by decide, "java/lang/IllegalArgumentException", hts _ tc_L_1, hy.1⟩, (fun _ h => absurd h List.not_mem_nil)⟩) rfl (by decide) (hts _ tc_L_2) (va_Nw.use rfl (hz.1 _ (by simp [jzl]))) g1 g2 g3 ?_
      refine lv_astore_n (lv' := [(3, .ref q9), (0, .ref qJ), (1, .int (nI (u))), (2, .ref qw)]) hx hb dd_L_directory_15 rfl hl (by decide) rfl (fun ls hl => ?_)
      refine lv_iconst (v := nI 2) hx hb dd_L_directory_16 (by decide) ?_
      exact jt_reti C (Or.inr ⟨h0, by rw [h9], rfl⟩) hP hD hK hS ⟨Nat.le_of_ble_eq_true rfl, Nat.le_of_ble_eq_true rfl⟩ dd_L_directory_17
    · have hE : jex ((jf_dirT s u)) = "java/lang/IllegalStateException" := by rw [h9]; rfl
      rw [hE] at g3
      refine vx_catch (own := cn_L) (name := "java/lang/IllegalStateException") (E := "java/lang/IllegalStateException") hown [⟨0, 9, 12, 13⟩, ⟨0, 9, 15, 15⟩] ⟨0, 9, 18, 17⟩ [⟨0, 9, 21, 19⟩] (htb.trans rfl) (List.forall_mem_cons.mpr ⟨Or.inr ⟨by decide, "java/lang/IllegalArgumentException", hts _ tc_L_1, hy.2.1⟩, (List.forall_mem_cons.mpr ⟨Or.inr ⟨by decide, "java/util/NoSuchElementException", hts _ tc_L_2, hy.2.2.1⟩, (fun _ h => absurd h List.not_mem_nil)⟩)⟩) rfl (by decide) (hts _ tc_L_3) (va_Nw.use rfl (hz.1 _ (by simp [jzl]))) g1 g2 g3 ?_
      refine lv_astore_n (lv' := [(3, .ref q9), (0, .ref qJ), (1, .int (nI (u))), (2, .ref qw)]) hx hb dd_L_directory_18 rfl hl (by decide) rfl (fun ls hl => ?_)
      refine lv_iconst (v := nI 3) hx hb dd_L_directory_19 (by decide) ?_
      exact jt_reti C (Or.inr ⟨h0, by rw [h9], rfl⟩) hP hD hK hS ⟨Nat.le_of_ble_eq_true rfl, Nat.le_of_ble_eq_true rfl⟩ dd_L_directory_20
    · have hE : jex ((jf_dirT s u)) = "java/lang/UnsupportedOperationException" := by rw [h9]; rfl
      rw [hE] at g3
      refine vx_catch (own := cn_L) (name := "java/lang/UnsupportedOperationException") (E := "java/lang/UnsupportedOperationException") hown [⟨0, 9, 12, 13⟩, ⟨0, 9, 15, 15⟩, ⟨0, 9, 18, 17⟩] ⟨0, 9, 21, 19⟩ [] (htb.trans rfl) (List.forall_mem_cons.mpr ⟨Or.inr ⟨by decide, "java/lang/IllegalArgumentException", hts _ tc_L_1, hy.2.2.2.1⟩, (List.forall_mem_cons.mpr ⟨Or.inr ⟨by decide, "java/util/NoSuchElementException", hts _ tc_L_2, hy.2.2.2.2.1⟩, (List.forall_mem_cons.mpr ⟨Or.inr ⟨by decide, "java/lang/IllegalStateException", hts _ tc_L_3, hy.2.2.2.2.2⟩, (fun _ h => absurd h List.not_mem_nil)⟩)⟩)⟩) rfl (by decide) (hts _ tc_L_4) (va_Nw.use rfl (hz.1 _ (by simp [jzl]))) g1 g2 g3 ?_
      refine lv_astore_n (lv' := [(3, .ref q9), (0, .ref qJ), (1, .int (nI (u))), (2, .ref qw)]) hx hb dd_L_directory_21 rfl hl (by decide) rfl (fun ls hl => ?_)
      refine lv_iconst (v := nI 4) hx hb dd_L_directory_22 (by decide) ?_
      exact jt_reti C (Or.inr ⟨h0, by rw [h9], rfl⟩) hP hD hK hS ⟨Nat.le_of_ble_eq_true rfl, Nat.le_of_ble_eq_true rfl⟩ dd_L_directory_23
  · obtain ⟨h0, rfl, rfl⟩ := hxx
    refine jl_i2l hx hb (by have := jf_leastFree_getD s; omega) dd_L_directory_7 ?_
    refine va_last hx hb hK hP hD hS 12 3 rfl rfl (vp_in_nI (by decide) (by decide)) dd_L_directory_8 (fun H locs hP hD hS => ?_)
    refine lv_goto (tgt := 24) hx hb dd_L_directory_9 (by decide) ?_
    refine lv_iconst (v := nI 0) hx hb dd_L_directory_24 (by decide) ?_
    exact jt_reti C (Or.inl ⟨h0, rfl, rfl⟩) hP hD hK hS ⟨Nat.le_of_ble_eq_true rfl, Nat.le_of_ble_eq_true rfl⟩ dd_L_directory_25

abbrev hh_L_open : List (Nat × Nat × Nat × Nat) := [(0, 16, 19, 13), (0, 16, 23, 15), (0, 16, 27, 17), (0, 16, 31, 19)]
theorem kw_L_open : jc_L cn_L 81 yn_L_open cd_L_open 8 (some .int) hh_L_open 7 := ⟨jb_t (List.mem_append_right _ (List.mem_append_left _ (List.mem_of_getElem? (i := 160) rfl))) rfl, jb_t (List.mem_append_right _ (List.mem_append_left _ (List.mem_of_getElem? (i := 161) rfl))) rfl, tw_0, jb_t (List.mem_append_right _ (List.mem_append_left _ (List.mem_of_getElem? (i := 162) rfl))) rfl, by decide +kernel⟩
set_option maxHeartbeats 4000000 in
set_option maxRecDepth 100000 in
theorem ct_L_open (l : Launch) (hl9 : l.stackTraces = false) (G : va_G) (qJ : Nat) (qH : Nat) (qh : Nat → Nat) (cH : ClassId) (qI : Nat) (qD : Nat) (qS : Nat) (qC : Nat) (cS : ClassId) (cC : ClassId) (s : Nat → Nat) (c : Nat → Nat) (ho : Nat → Nat) (hn : Nat → Nat) (hg : Nat → Nat) (hm : Nat → Nat) (hp : Nat → Nat) (wc : Nat) (wd : Nat) (tf : Nat) (qw : Nat) (cw : ClassId) (fw : Nat → Int64) (u : Nat) (z : Nat) (cr : Nat) (ap : Nat) (em : Nat) (hu0 : u < 4294967296) (hz0 : z < 4294967296) (hcr : cr < 2) (hap : ap < 2) (hem : em < 2) (hs : jf_ok s) (hho : jlt 2 ho) (hhn : jlt 256 hn) (hhg : jlt 256 hg) (hhm : jlt 5 hm) (hhp : jlt 65 hp) : jL l yn_L_open cd_L_open 8 (some .int) hh_L_open { frames := 8, cells := 6, slots := 36, locals := 184 } G (tJ cS cC cH ++ [(cw, .long)]) ((wJ qJ qH qh cH qI qD qS qC cS cC s c ho hn hg hm hp wc wd tf) ++ [(qw, .inl (cw, 1, .inr (.inl fw)))]) [.ref qJ, .int (nI (u)), .int (nI (z)), .int (nI (cr)), .int (nI (ap)), .int (nI (em)), .ref qw] (fun o w => (((jf_opT s ho u z cr)) = 0 ∧ o = some (.int (nI 0)) ∧ w = (wJ qJ qH qh cH qI qD qS qC cS cC (jf_opS s u z em) c (ju ho ((jf_closed ho).getD 0) 1) (ju hn ((jf_closed ho).getD 0) (jf_opI s u)) (ju hg ((jf_closed ho).getD 0) (jf_gen (jf_opS s u z em) (jf_opI s u))) (ju hm ((jf_closed ho).getD 0) z) (ju hp ((jf_closed ho).getD 0) (jf_opP s u z ap em)) wc wd tf) ++ [(qw, .inl (cw, 1, .inr (.inl (vp_updL fw (nI 0).toNatClampNeg (lN (((jf_closed ho).getD 0)))))))]) ∨ (¬ ((jf_opT s ho u z cr)) = 0 ∧ o = some (.int (nI ((jf_opT s ho u z cr)))) ∧ w = (wJ qJ qH qh cH qI qD qS qC cS cC s c ho hn hg hm hp wc wd tf) ++ [(qw, .inl (cw, 1, .inr (.inl fw)))])) := by
  refine jL_of (by decide) (Nat.le_of_ble_eq_true rfl) ?_
  intro pr en σ mi bel met cd ls A hA C htb hz hy hP hK hD hS hl
  have hx := C.1
  have hb := C.2.1
  have hown := C.2.2.2.1
  have hts := C.2.2.2.2.1
  have hl : lv_has ls 8 [(0, .ref qJ), (1, .int (nI (u))), (2, .int (nI (z))), (3, .int (nI (cr))), (4, .int (nI (ap))), (5, .int (nI (em))), (6, .ref qw)] := hl
  refine lv_aload hx hb dd_L_open_0 (lv_at hl 6 rfl) ?_
  refine lv_iconst (v := nI 0) hx hb dd_L_open_2 (by decide) ?_
  refine lv_aload_n hx hb dd_L_open_3 rfl (lv_at hl 0 rfl) ?_
  refine lv_iload_n hx hb dd_L_open_4 rfl (lv_at hl 1 rfl) ?_
  refine lv_iload_n hx hb dd_L_open_5 rfl (lv_at hl 2 rfl) ?_
  refine lv_iload_n hx hb dd_L_open_6 rfl (lv_at hl 3 rfl) ?_
  refine lv_iload hx hb dd_L_open_7 (lv_at hl 4 rfl) ?_
  refine lv_iload hx hb dd_L_open_9 (lv_at hl 5 rfl) ?_
  refine jt_callV (wr := [(qw, .inl (cw, 1, .inr (.inl fw)))]) C hz (ct_J_open l hl9 G qJ qH qh cH qI qD qS qC cS cC s c ho hn hg hm hp wc wd tf u z cr ap em hu0 hz0 hcr hap hem hs hho hhn hhg hhm hhp) kl_L_21 ⟨Nat.le_of_ble_eq_true rfl, Nat.le_of_ble_eq_true rfl⟩ ⟨Nat.le_of_ble_eq_true rfl, Nat.le_of_ble_eq_true rfl⟩ hP hD hS hA (hK.sub [0, 1, 2] rfl) (va_recv hK hP (ci := 3) (q0 := 4) rfl rfl) hl.1 rfl rfl (Nat.le_of_ble_eq_true rfl) dd_L_open_11 (fun E w1 H locs q9 ce hxx hP hD hS g1 g2 g3 => ?_) (fun o w1 H locs hxx hP hD hS => ?_)
  · obtain ⟨h0, rfl, rfl⟩ := hxx
    rcases jk_op s ho u z cr with h9 | h9 | h9 | h9 | h9
    · exact absurd h9 h0
    · have hE : jex ((jf_opT s ho u z cr)) = "java/lang/IllegalArgumentException" := by rw [h9]; rfl
      rw [hE] at g3
      refine vx_catch (own := cn_L) (name := "java/lang/IllegalArgumentException") (E := "java/lang/IllegalArgumentException") hown [] ⟨0, 16, 19, 13⟩ [⟨0, 16, 23, 15⟩, ⟨0, 16, 27, 17⟩, ⟨0, 16, 31, 19⟩] (htb.trans rfl) (fun _ h => absurd h List.not_mem_nil) rfl (by decide) (hts _ tc_L_1) (va_Nw.use rfl (hz.1 _ (by simp [jzl]))) g1 g2 g3 ?_
      refine lv_astore (lv' := [(7, .ref q9), (0, .ref qJ), (1, .int (nI (u))), (2, .int (nI (z))), (3, .int (nI (cr))), (4, .int (nI (ap))), (5, .int (nI (em))), (6, .ref qw)]) hx hb dd_L_open_19 hl (by decide) rfl (fun ls hl => ?_)
      refine lv_iconst (v := nI 1) hx hb dd_L_open_21 (by decide) ?_
      exact jt_reti C (Or.inr ⟨h0, by rw [h9], rfl⟩) hP hD hK hS ⟨Nat.le_of_ble_eq_true rfl, Nat.le_of_ble_eq_true rfl⟩ dd_L_open_22
    · have hE : jex ((jf_opT s ho u z cr)) = "java/util/NoSuchElementException" := by rw [h9]; rfl
      rw [hE] at g3
      refine vx_catch (own := cn_L) (name := "java/util/NoSuchElementException") (E := "java/util/NoSuchElementException") hown [⟨0, 16, 19, 13⟩] ⟨0, 16, 23, 15⟩ [⟨0, 16, 27, 17⟩, ⟨0, 16, 31, 19⟩] (htb.trans rfl) (List.forall_mem_cons.mpr ⟨Or.inr ⟨by decide, "java/lang/IllegalArgumentException", hts _ tc_L_1, hy.1⟩, (fun _ h => absurd h List.not_mem_nil)⟩) rfl (by decide) (hts _ tc_L_2) (va_Nw.use rfl (hz.1 _ (by simp [jzl]))) g1 g2 g3 ?_
      refine lv_astore (lv' := [(7, .ref q9), (0, .ref qJ), (1, .int (nI (u))), (2, .int (nI (z))), (3, .int (nI (cr))), (4, .int (nI (ap))), (5, .int (nI (em))), (6, .ref qw)]) hx hb dd_L_open_23 hl (by decide) rfl (fun ls hl => ?_)
      refine lv_iconst (v := nI 2) hx hb dd_L_open_25 (by decide) ?_
      exact jt_reti C (Or.inr ⟨h0, by rw [h9], rfl⟩) hP hD hK hS ⟨Nat.le_of_ble_eq_true rfl, Nat.le_of_ble_eq_true rfl⟩ dd_L_open_26
    · have hE : jex ((jf_opT s ho u z cr)) = "java/lang/IllegalStateException" := by rw [h9]; rfl
      rw [hE] at g3
      refine vx_catch (own := cn_L) (name := "java/lang/IllegalStateException") (E := "java/lang/IllegalStateException") hown [⟨0, 16, 19, 13⟩, ⟨0, 16, 23, 15⟩] ⟨0, 16, 27, 17⟩ [⟨0, 16, 31, 19⟩] (htb.trans rfl) (List.forall_mem_cons.mpr ⟨Or.inr ⟨by decide, "java/lang/IllegalArgumentException", hts _ tc_L_1, hy.2.1⟩, (List.forall_mem_cons.mpr ⟨Or.inr ⟨by decide, "java/util/NoSuchElementException", hts _ tc_L_2, hy.2.2.1⟩, (fun _ h => absurd h List.not_mem_nil)⟩)⟩) rfl (by decide) (hts _ tc_L_3) (va_Nw.use rfl (hz.1 _ (by simp [jzl]))) g1 g2 g3 ?_
      refine lv_astore (lv' := [(7, .ref q9), (0, .ref qJ), (1, .int (nI (u))), (2, .int (nI (z))), (3, .int (nI (cr))), (4, .int (nI (ap))), (5, .int (nI (em))), (6, .ref qw)]) hx hb dd_L_open_27 hl (by decide) rfl (fun ls hl => ?_)
      refine lv_iconst (v := nI 3) hx hb dd_L_open_29 (by decide) ?_
      exact jt_reti C (Or.inr ⟨h0, by rw [h9], rfl⟩) hP hD hK hS ⟨Nat.le_of_ble_eq_true rfl, Nat.le_of_ble_eq_true rfl⟩ dd_L_open_30
    · have hE : jex ((jf_opT s ho u z cr)) = "java/lang/UnsupportedOperationException" := by rw [h9]; rfl
      rw [hE] at g3
      refine vx_catch (own := cn_L) (name := "java/lang/UnsupportedOperationException") (E := "java/lang/UnsupportedOperationException") hown [⟨0, 16, 19, 13⟩, ⟨0, 16, 23, 15⟩, ⟨0, 16, 27, 17⟩] ⟨0, 16, 31, 19⟩ [] (htb.trans rfl) (List.forall_mem_cons.mpr ⟨Or.inr ⟨by decide, "java/lang/IllegalArgumentException", hts _ tc_L_1, hy.2.2.2.1⟩, (List.forall_mem_cons.mpr ⟨Or.inr ⟨by decide, "java/util/NoSuchElementException", hts _ tc_L_2, hy.2.2.2.2.1⟩, (List.forall_mem_cons.mpr ⟨Or.inr ⟨by decide, "java/lang/IllegalStateException", hts _ tc_L_3, hy.2.2.2.2.2⟩, (fun _ h => absurd h List.not_mem_nil)⟩)⟩)⟩) rfl (by decide) (hts _ tc_L_4) (va_Nw.use rfl (hz.1 _ (by simp [jzl]))) g1 g2 g3 ?_
      refine lv_astore (lv' := [(7, .ref q9), (0, .ref qJ), (1, .int (nI (u))), (2, .int (nI (z))), (3, .int (nI (cr))), (4, .int (nI (ap))), (5, .int (nI (em))), (6, .ref qw)]) hx hb dd_L_open_31 hl (by decide) rfl (fun ls hl => ?_)
      refine lv_iconst (v := nI 4) hx hb dd_L_open_33 (by decide) ?_
      exact jt_reti C (Or.inr ⟨h0, by rw [h9], rfl⟩) hP hD hK hS ⟨Nat.le_of_ble_eq_true rfl, Nat.le_of_ble_eq_true rfl⟩ dd_L_open_34
  · obtain ⟨h0, rfl, rfl⟩ := hxx
    refine jl_i2l hx hb (by have := jf_closed_6 ho; omega) dd_L_open_14 ?_
    refine va_last hx hb hK hP hD hS 12 3 rfl rfl (vp_in_nI (by decide) (by decide)) dd_L_open_15 (fun H locs hP hD hS => ?_)
    refine lv_goto (tgt := 35) hx hb dd_L_open_16 (by decide) ?_
    refine lv_iconst (v := nI 0) hx hb dd_L_open_35 (by decide) ?_
    exact jt_reti C (Or.inl ⟨h0, rfl, rfl⟩) hP hD hK hS ⟨Nat.le_of_ble_eq_true rfl, Nat.le_of_ble_eq_true rfl⟩ dd_L_open_36

abbrev hh_L_close : List (Nat × Nat × Nat × Nat) := [(0, 5, 8, 13), (0, 5, 11, 17)]
theorem kw_L_close : jc_L cn_L 85 yn_L_close cd_L_close 3 (some .int) hh_L_close 2 := ⟨jb_t (List.mem_append_right _ (List.mem_append_left _ (List.mem_of_getElem? (i := 187) rfl))) rfl, jb_t (List.mem_append_right _ (List.mem_append_left _ (List.mem_of_getElem? (i := 188) rfl))) rfl, tw_0, jb_t (List.mem_append_right _ (List.mem_append_left _ (List.mem_of_getElem? (i := 189) rfl))) rfl, by decide +kernel⟩
set_option maxHeartbeats 4000000 in
set_option maxRecDepth 100000 in
theorem ct_L_close (l : Launch) (hl9 : l.stackTraces = false) (G : va_G) (qJ : Nat) (qH : Nat) (qh : Nat → Nat) (cH : ClassId) (qI : Nat) (qD : Nat) (qS : Nat) (qC : Nat) (cS : ClassId) (cC : ClassId) (s : Nat → Nat) (c : Nat → Nat) (ho : Nat → Nat) (hn : Nat → Nat) (hg : Nat → Nat) (hm : Nat → Nat) (hp : Nat → Nat) (wc : Nat) (wd : Nat) (tf : Nat) (h : Nat) (hh0 : h < 4294967296) (hho : jlt 2 ho) : jL l yn_L_close cd_L_close 3 (some .int) hh_L_close { frames := 8, cells := 2, slots := 12, locals := 134 } G (tJ cS cC cH) ((wJ qJ qH qh cH qI qD qS qC cS cC s c ho hn hg hm hp wc wd tf)) [.ref qJ, .int (nI (h))] (fun o w => (((jf_closeT ho h)) = 0 ∧ o = some (.int (nI 0)) ∧ w = (wJ qJ qH qh cH qI qD qS qC cS cC s c (ju ho h 0) hn hg hm hp wc wd tf)) ∨ (¬ ((jf_closeT ho h)) = 0 ∧ o = some (.int (nI (je_m ((jf_closeT ho h))))) ∧ w = (wJ qJ qH qh cH qI qD qS qC cS cC s c ho hn hg hm hp wc wd tf))) := by
  refine jL_of (by decide) (Nat.le_of_ble_eq_true rfl) ?_
  intro pr en σ mi bel met cd ls A hA C htb hz hy hP hK hD hS hl
  have hx := C.1
  have hb := C.2.1
  have hown := C.2.2.2.1
  have hts := C.2.2.2.2.1
  have hl : lv_has ls 3 [(0, .ref qJ), (1, .int (nI (h)))] := hl
  refine lv_aload_n hx hb dd_L_close_0 rfl (lv_at hl 0 rfl) ?_
  refine lv_iload_n hx hb dd_L_close_1 rfl (lv_at hl 1 rfl) ?_
  refine jt_callV (wr := []) C hz (ct_J_close l hl9 G qJ qH qh cH qI qD qS qC cS cC s c ho hn hg hm hp wc wd tf h hh0 hho) kl_L_25 ⟨Nat.le_of_ble_eq_true rfl, Nat.le_of_ble_eq_true rfl⟩ ⟨Nat.le_of_ble_eq_true rfl, Nat.le_of_ble_eq_true rfl⟩ hP hD hS hA (hK) (va_recv hK hP (ci := 3) (q0 := 4) rfl rfl) hl.1 rfl rfl (Nat.le_of_ble_eq_true rfl) dd_L_close_2 (fun E w1 H locs q9 ce hxx hP hD hS g1 g2 g3 => ?_) (fun o w1 H locs hxx hP hD hS => ?_)
  · obtain ⟨h0, rfl, rfl⟩ := hxx
    rcases jk_close ho h with h9 | h9 | h9
    · exact absurd h9 h0
    · have hE : jex ((jf_closeT ho h)) = "java/lang/IllegalArgumentException" := by rw [h9]; rfl
      rw [hE] at g3
      refine vx_catch (own := cn_L) (name := "java/lang/IllegalArgumentException") (E := "java/lang/IllegalArgumentException") hown [] ⟨0, 5, 8, 13⟩ [⟨0, 5, 11, 17⟩] (htb.trans rfl) (fun _ h => absurd h List.not_mem_nil) rfl (by decide) (hts _ tc_L_1) (va_Nw.use rfl (hz.1 _ (by simp [jzl]))) g1 g2 g3 ?_
      refine lv_astore_n (lv' := [(2, .ref q9), (0, .ref qJ), (1, .int (nI (h)))]) hx hb dd_L_close_8 rfl hl (by decide) rfl (fun ls hl => ?_)
      refine lv_iconst (v := nI 1) hx hb dd_L_close_9 (by decide) ?_
      exact jt_reti C (Or.inr ⟨h0, by rw [h9]; rfl, rfl⟩) hP hD hK hS ⟨Nat.le_of_ble_eq_true rfl, Nat.le_of_ble_eq_true rfl⟩ dd_L_close_10
    · have hE : jex ((jf_closeT ho h)) = "java/lang/IllegalStateException" := by rw [h9]; rfl
      rw [hE] at g3
      refine vx_catch (own := cn_L) (name := "java/lang/IllegalStateException") (E := "java/lang/IllegalStateException") hown [⟨0, 5, 8, 13⟩] ⟨0, 5, 11, 17⟩ [] (htb.trans rfl) (List.forall_mem_cons.mpr ⟨Or.inr ⟨by decide, "java/lang/IllegalArgumentException", hts _ tc_L_1, hy.2.1⟩, (fun _ h => absurd h List.not_mem_nil)⟩) rfl (by decide) (hts _ tc_L_3) (va_Nw.use rfl (hz.1 _ (by simp [jzl]))) g1 g2 g3 ?_
      refine lv_astore_n (lv' := [(2, .ref q9), (0, .ref qJ), (1, .int (nI (h)))]) hx hb dd_L_close_11 rfl hl (by decide) rfl (fun ls hl => ?_)
      refine lv_iconst (v := nI 2) hx hb dd_L_close_12 (by decide) ?_
      exact jt_reti C (Or.inr ⟨h0, by rw [h9]; rfl, rfl⟩) hP hD hK hS ⟨Nat.le_of_ble_eq_true rfl, Nat.le_of_ble_eq_true rfl⟩ dd_L_close_13
  · obtain ⟨h0, rfl, rfl⟩ := hxx
    refine lv_goto (tgt := 14) hx hb dd_L_close_5 (by decide) ?_
    refine lv_iconst (v := nI 0) hx hb dd_L_close_14 (by decide) ?_
    exact jt_reti C (Or.inl ⟨h0, rfl, rfl⟩) hP hD hK hS ⟨Nat.le_of_ble_eq_true rfl, Nat.le_of_ble_eq_true rfl⟩ dd_L_close_15

abbrev hh_L_write : List (Nat × Nat × Nat × Nat) := [(0, 8, 11, 13), (0, 8, 15, 17), (0, 8, 19, 19)]
theorem kw_L_write : jc_L cn_L 91 yn_L_write cd_L_write 6 (some .int) hh_L_write 4 := ⟨jb_t (List.mem_append_right _ (List.mem_append_left _ (List.mem_of_getElem? (i := 195) rfl))) rfl, jb_t (List.mem_append_right _ (List.mem_append_left _ (List.mem_of_getElem? (i := 196) rfl))) rfl, tw_0, jb_t (List.mem_append_right _ (List.mem_append_left _ (List.mem_of_getElem? (i := 197) rfl))) rfl, by decide +kernel⟩
set_option maxHeartbeats 4000000 in
set_option maxRecDepth 100000 in
theorem ct_L_write (l : Launch) (hl9 : l.stackTraces = false) (G : va_G) (qJ : Nat) (qH : Nat) (qh : Nat → Nat) (cH : ClassId) (qI : Nat) (qD : Nat) (qS : Nat) (qC : Nat) (cS : ClassId) (cC : ClassId) (s : Nat → Nat) (c : Nat → Nat) (ho : Nat → Nat) (hn : Nat → Nat) (hg : Nat → Nat) (hm : Nat → Nat) (hp : Nat → Nat) (wc : Nat) (wd : Nat) (tf : Nat) (h : Nat) (b : Nat) (z : Nat) (hh0 : h < 4294967296) (hb0 : b < 18446744073709551616) (hz0 : z < 4294967296) (hs : jf_ok s) (hho : jlt 2 ho) (hhn : jlt 256 hn) (hhg : jlt 256 hg) (hhm : jlt 5 hm) (hhp : jlt 65 hp) : jL l yn_L_write cd_L_write 6 (some .int) hh_L_write { frames := 8, cells := 6, slots := 36, locals := 140 } G (tJ cS cC cH) ((wJ qJ qH qh cH qI qD qS qC cS cC s c ho hn hg hm hp wc wd tf)) [.ref qJ, .int (nI (h)), .long (lN (b)), .int (nI (z))] (fun o w => (((jf_wriT s ho hn hg hm hp h z)) = 0 ∧ o = some (.int (nI 0)) ∧ w = (wJ qJ qH qh cH qI qD qS qC cS cC (if z = 0 then s else jf_wbL (hn h) (hp h) b z 0 (jf_resize s (hn h) (max (jf_size s (hn h)) (hp h + z)))) c ho hn hg hm (if z = 0 then hp else ju hp h (hp h + z)) wc wd tf)) ∨ (¬ ((jf_wriT s ho hn hg hm hp h z)) = 0 ∧ o = some (.int (nI (je_m ((jf_wriT s ho hn hg hm hp h z))))) ∧ w = (wJ qJ qH qh cH qI qD qS qC cS cC s c ho hn hg hm hp wc wd tf))) := by
  refine jL_of (by decide) (Nat.le_of_ble_eq_true rfl) ?_
  intro pr en σ mi bel met cd ls A hA C htb hz hy hP hK hD hS hl
  have hx := C.1
  have hb := C.2.1
  have hown := C.2.2.2.1
  have hts := C.2.2.2.2.1
  have hl : lv_has ls 6 [(0, .ref qJ), (1, .int (nI (h))), (2, .long (lN (b))), (4, .int (nI (z)))] := hl
  refine lv_aload_n hx hb dd_L_write_0 rfl (lv_at hl 0 rfl) ?_
  refine lv_iload_n hx hb dd_L_write_1 rfl (lv_at hl 1 rfl) ?_
  refine lv_lload_n hx hb dd_L_write_2 rfl (lv_at hl 2 rfl) ?_
  refine lv_iload hx hb dd_L_write_3 (lv_at hl 3 rfl) ?_
  refine jt_callV (wr := []) C hz (ct_J_write l hl9 G qJ qH qh cH qI qD qS qC cS cC s c ho hn hg hm hp wc wd tf h b z hh0 hb0 hz0 hs hho hhn hhg hhm hhp) kl_L_29 ⟨Nat.le_of_ble_eq_true rfl, Nat.le_of_ble_eq_true rfl⟩ ⟨Nat.le_of_ble_eq_true rfl, Nat.le_of_ble_eq_true rfl⟩ hP hD hS hA (hK) (va_recv hK hP (ci := 3) (q0 := 4) rfl rfl) hl.1 rfl rfl (Nat.le_of_ble_eq_true rfl) dd_L_write_5 (fun E w1 H locs q9 ce hxx hP hD hS g1 g2 g3 => ?_) (fun o w1 H locs hxx hP hD hS => ?_)
  · obtain ⟨h0, rfl, rfl⟩ := hxx
    rcases jk_wri s ho hn hg hm hp h z with h9 | h9 | h9 | h9
    · exact absurd h9 h0
    · have hE : jex ((jf_wriT s ho hn hg hm hp h z)) = "java/lang/IllegalArgumentException" := by rw [h9]; rfl
      rw [hE] at g3
      refine vx_catch (own := cn_L) (name := "java/lang/IllegalArgumentException") (E := "java/lang/IllegalArgumentException") hown [] ⟨0, 8, 11, 13⟩ [⟨0, 8, 15, 17⟩, ⟨0, 8, 19, 19⟩] (htb.trans rfl) (fun _ h => absurd h List.not_mem_nil) rfl (by decide) (hts _ tc_L_1) (va_Nw.use rfl (hz.1 _ (by simp [jzl]))) g1 g2 g3 ?_
      refine lv_astore (lv' := [(5, .ref q9), (0, .ref qJ), (1, .int (nI (h))), (2, .long (lN (b))), (4, .int (nI (z)))]) hx hb dd_L_write_11 hl (by decide) rfl (fun ls hl => ?_)
      refine lv_iconst (v := nI 1) hx hb dd_L_write_13 (by decide) ?_
      exact jt_reti C (Or.inr ⟨h0, by rw [h9]; rfl, rfl⟩) hP hD hK hS ⟨Nat.le_of_ble_eq_true rfl, Nat.le_of_ble_eq_true rfl⟩ dd_L_write_14
    · have hE : jex ((jf_wriT s ho hn hg hm hp h z)) = "java/lang/IllegalStateException" := by rw [h9]; rfl
      rw [hE] at g3
      refine vx_catch (own := cn_L) (name := "java/lang/IllegalStateException") (E := "java/lang/IllegalStateException") hown [⟨0, 8, 11, 13⟩] ⟨0, 8, 15, 17⟩ [⟨0, 8, 19, 19⟩] (htb.trans rfl) (List.forall_mem_cons.mpr ⟨Or.inr ⟨by decide, "java/lang/IllegalArgumentException", hts _ tc_L_1, hy.2.1⟩, (fun _ h => absurd h List.not_mem_nil)⟩) rfl (by decide) (hts _ tc_L_3) (va_Nw.use rfl (hz.1 _ (by simp [jzl]))) g1 g2 g3 ?_
      refine lv_astore (lv' := [(5, .ref q9), (0, .ref qJ), (1, .int (nI (h))), (2, .long (lN (b))), (4, .int (nI (z)))]) hx hb dd_L_write_15 hl (by decide) rfl (fun ls hl => ?_)
      refine lv_iconst (v := nI 2) hx hb dd_L_write_17 (by decide) ?_
      exact jt_reti C (Or.inr ⟨h0, by rw [h9]; rfl, rfl⟩) hP hD hK hS ⟨Nat.le_of_ble_eq_true rfl, Nat.le_of_ble_eq_true rfl⟩ dd_L_write_18
    · have hE : jex ((jf_wriT s ho hn hg hm hp h z)) = "java/lang/UnsupportedOperationException" := by rw [h9]; rfl
      rw [hE] at g3
      refine vx_catch (own := cn_L) (name := "java/lang/UnsupportedOperationException") (E := "java/lang/UnsupportedOperationException") hown [⟨0, 8, 11, 13⟩, ⟨0, 8, 15, 17⟩] ⟨0, 8, 19, 19⟩ [] (htb.trans rfl) (List.forall_mem_cons.mpr ⟨Or.inr ⟨by decide, "java/lang/IllegalArgumentException", hts _ tc_L_1, hy.2.2.2.1⟩, (List.forall_mem_cons.mpr ⟨Or.inr ⟨by decide, "java/lang/IllegalStateException", hts _ tc_L_3, hy.2.2.2.2.2⟩, (fun _ h => absurd h List.not_mem_nil)⟩)⟩) rfl (by decide) (hts _ tc_L_4) (va_Nw.use rfl (hz.1 _ (by simp [jzl]))) g1 g2 g3 ?_
      refine lv_astore (lv' := [(5, .ref q9), (0, .ref qJ), (1, .int (nI (h))), (2, .long (lN (b))), (4, .int (nI (z)))]) hx hb dd_L_write_19 hl (by decide) rfl (fun ls hl => ?_)
      refine lv_iconst (v := nI 3) hx hb dd_L_write_21 (by decide) ?_
      exact jt_reti C (Or.inr ⟨h0, by rw [h9]; rfl, rfl⟩) hP hD hK hS ⟨Nat.le_of_ble_eq_true rfl, Nat.le_of_ble_eq_true rfl⟩ dd_L_write_22
  · obtain ⟨h0, rfl, rfl⟩ := hxx
    refine lv_goto (tgt := 23) hx hb dd_L_write_8 (by decide) ?_
    refine lv_iconst (v := nI 0) hx hb dd_L_write_23 (by decide) ?_
    exact jt_reti C (Or.inl ⟨h0, rfl, rfl⟩) hP hD hK hS ⟨Nat.le_of_ble_eq_true rfl, Nat.le_of_ble_eq_true rfl⟩ dd_L_write_24

abbrev hh_L_read : List (Nat × Nat × Nat × Nat) := [(0, 9, 12, 13), (0, 9, 16, 17)]
theorem kw_L_read : jc_L cn_L 95 yn_L_read cd_L_read 5 (some .int) hh_L_read 4 := ⟨jb_t (List.mem_append_right _ (List.mem_append_left _ (List.mem_of_getElem? (i := 221) rfl))) rfl, jb_t (List.mem_append_right _ (List.mem_append_left _ (List.mem_of_getElem? (i := 222) rfl))) rfl, tw_0, jb_t (List.mem_append_right _ (List.mem_append_left _ (List.mem_of_getElem? (i := 223) rfl))) rfl, by decide +kernel⟩
set_option maxHeartbeats 4000000 in
set_option maxRecDepth 100000 in
theorem ct_L_read (l : Launch) (hl9 : l.stackTraces = false) (G : va_G) (qJ : Nat) (qH : Nat) (qh : Nat → Nat) (cH : ClassId) (qI : Nat) (qD : Nat) (qS : Nat) (qC : Nat) (cS : ClassId) (cC : ClassId) (s : Nat → Nat) (c : Nat → Nat) (ho : Nat → Nat) (hn : Nat → Nat) (hg : Nat → Nat) (hm : Nat → Nat) (hp : Nat → Nat) (wc : Nat) (wd : Nat) (tf : Nat) (qw : Nat) (cw : ClassId) (fw : Nat → Int64) (h : Nat) (z : Nat) (hh0 : h < 4294967296) (hz0 : z < 4294967296) (hs : jf_ok s) (hho : jlt 2 ho) (hhn : jlt 256 hn) (hhg : jlt 256 hg) (hhm : jlt 5 hm) (hhp : jlt 65 hp) : jL l yn_L_read cd_L_read 5 (some .int) hh_L_read { frames := 8, cells := 5, slots := 30, locals := 140 } G (tJ cS cC cH ++ [(cw, .long)]) ((wJ qJ qH qh cH qI qD qS qC cS cC s c ho hn hg hm hp wc wd tf) ++ [(qw, .inl (cw, 1, .inr (.inl fw)))]) [.ref qJ, .int (nI (h)), .int (nI (z)), .ref qw] (fun o w => (((jf_reaT s ho hn hg hm h z)) = 0 ∧ o = some (.int (nI 0)) ∧ w = (wJ qJ qH qh cH qI qD qS qC cS cC s c ho hn hg hm (ju hp h (hp h + (min z (jf_size s (hn h) - hp h)))) wc wd tf) ++ [(qw, .inl (cw, 1, .inr (.inl (vp_updL fw (nI 0).toNatClampNeg (lN ((jf_rbL s (hn h) (hp h) (min z (jf_size s (hn h) - hp h)) 0 0)))))))]) ∨ (¬ ((jf_reaT s ho hn hg hm h z)) = 0 ∧ o = some (.int (nI (je_m ((jf_reaT s ho hn hg hm h z))))) ∧ w = (wJ qJ qH qh cH qI qD qS qC cS cC s c ho hn hg hm hp wc wd tf) ++ [(qw, .inl (cw, 1, .inr (.inl fw)))])) := by
  refine jL_of (by decide) (Nat.le_of_ble_eq_true rfl) ?_
  intro pr en σ mi bel met cd ls A hA C htb hz hy hP hK hD hS hl
  have hx := C.1
  have hb := C.2.1
  have hown := C.2.2.2.1
  have hts := C.2.2.2.2.1
  have hl : lv_has ls 5 [(0, .ref qJ), (1, .int (nI (h))), (2, .int (nI (z))), (3, .ref qw)] := hl
  refine lv_aload_n hx hb dd_L_read_0 rfl (lv_at hl 3 rfl) ?_
  refine lv_iconst (v := nI 0) hx hb dd_L_read_1 (by decide) ?_
  refine lv_aload_n hx hb dd_L_read_2 rfl (lv_at hl 0 rfl) ?_
  refine lv_iload_n hx hb dd_L_read_3 rfl (lv_at hl 1 rfl) ?_
  refine lv_iload_n hx hb dd_L_read_4 rfl (lv_at hl 2 rfl) ?_
  refine jt_callV (wr := [(qw, .inl (cw, 1, .inr (.inl fw)))]) C hz (ct_J_read l hl9 G qJ qH qh cH qI qD qS qC cS cC s c ho hn hg hm hp wc wd tf h z hh0 hz0 hs hho hhn hhg hhm hhp) kl_L_33 ⟨Nat.le_of_ble_eq_true rfl, Nat.le_of_ble_eq_true rfl⟩ ⟨Nat.le_of_ble_eq_true rfl, Nat.le_of_ble_eq_true rfl⟩ hP hD hS hA (hK.sub [0, 1, 2] rfl) (va_recv hK hP (ci := 3) (q0 := 4) rfl rfl) hl.1 rfl rfl (Nat.le_of_ble_eq_true rfl) dd_L_read_5 (fun E w1 H locs q9 ce hxx hP hD hS g1 g2 g3 => ?_) (fun o w1 H locs hxx hP hD hS => ?_)
  · obtain ⟨h0, rfl, rfl⟩ := hxx
    rcases jk_rea s ho hn hg hm h z with h9 | h9 | h9
    · exact absurd h9 h0
    · have hE : jex ((jf_reaT s ho hn hg hm h z)) = "java/lang/IllegalArgumentException" := by rw [h9]; rfl
      rw [hE] at g3
      refine vx_catch (own := cn_L) (name := "java/lang/IllegalArgumentException") (E := "java/lang/IllegalArgumentException") hown [] ⟨0, 9, 12, 13⟩ [⟨0, 9, 16, 17⟩] (htb.trans rfl) (fun _ h => absurd h List.not_mem_nil) rfl (by decide) (hts _ tc_L_1) (va_Nw.use rfl (hz.1 _ (by simp [jzl]))) g1 g2 g3 ?_
      refine lv_astore (lv' := [(4, .ref q9), (0, .ref qJ), (1, .int (nI (h))), (2, .int (nI (z))), (3, .ref qw)]) hx hb dd_L_read_12 hl (by decide) rfl (fun ls hl => ?_)
      refine lv_iconst (v := nI 1) hx hb dd_L_read_14 (by decide) ?_
      exact jt_reti C (Or.inr ⟨h0, by rw [h9]; rfl, rfl⟩) hP hD hK hS ⟨Nat.le_of_ble_eq_true rfl, Nat.le_of_ble_eq_true rfl⟩ dd_L_read_15
    · have hE : jex ((jf_reaT s ho hn hg hm h z)) = "java/lang/IllegalStateException" := by rw [h9]; rfl
      rw [hE] at g3
      refine vx_catch (own := cn_L) (name := "java/lang/IllegalStateException") (E := "java/lang/IllegalStateException") hown [⟨0, 9, 12, 13⟩] ⟨0, 9, 16, 17⟩ [] (htb.trans rfl) (List.forall_mem_cons.mpr ⟨Or.inr ⟨by decide, "java/lang/IllegalArgumentException", hts _ tc_L_1, hy.2.1⟩, (fun _ h => absurd h List.not_mem_nil)⟩) rfl (by decide) (hts _ tc_L_3) (va_Nw.use rfl (hz.1 _ (by simp [jzl]))) g1 g2 g3 ?_
      refine lv_astore (lv' := [(4, .ref q9), (0, .ref qJ), (1, .int (nI (h))), (2, .int (nI (z))), (3, .ref qw)]) hx hb dd_L_read_16 hl (by decide) rfl (fun ls hl => ?_)
      refine lv_iconst (v := nI 2) hx hb dd_L_read_18 (by decide) ?_
      exact jt_reti C (Or.inr ⟨h0, by rw [h9]; rfl, rfl⟩) hP hD hK hS ⟨Nat.le_of_ble_eq_true rfl, Nat.le_of_ble_eq_true rfl⟩ dd_L_read_19
  · obtain ⟨h0, rfl, rfl⟩ := hxx
    refine va_last hx hb hK hP hD hS 12 3 rfl rfl (vp_in_nI (by decide) (by decide)) dd_L_read_8 (fun H locs hP hD hS => ?_)
    refine lv_goto (tgt := 20) hx hb dd_L_read_9 (by decide) ?_
    refine lv_iconst (v := nI 0) hx hb dd_L_read_20 (by decide) ?_
    exact jt_reti C (Or.inl ⟨h0, rfl, rfl⟩) hP hD hK hS ⟨Nat.le_of_ble_eq_true rfl, Nat.le_of_ble_eq_true rfl⟩ dd_L_read_21

abbrev hh_L_seek : List (Nat × Nat × Nat × Nat) := [(0, 6, 9, 13), (0, 6, 12, 17)]
theorem kw_L_seek : jc_L cn_L 99 yn_L_seek cd_L_seek 4 (some .int) hh_L_seek 3 := ⟨jb_t (List.mem_append_right _ (List.mem_append_left _ (List.mem_of_getElem? (i := 236) rfl))) rfl, jb_t (List.mem_append_right _ (List.mem_append_left _ (List.mem_of_getElem? (i := 237) rfl))) rfl, tw_0, jb_t (List.mem_append_right _ (List.mem_append_left _ (List.mem_of_getElem? (i := 238) rfl))) rfl, by decide +kernel⟩
set_option maxHeartbeats 4000000 in
set_option maxRecDepth 100000 in
theorem ct_L_seek (l : Launch) (hl9 : l.stackTraces = false) (G : va_G) (qJ : Nat) (qH : Nat) (qh : Nat → Nat) (cH : ClassId) (qI : Nat) (qD : Nat) (qS : Nat) (qC : Nat) (cS : ClassId) (cC : ClassId) (s : Nat → Nat) (c : Nat → Nat) (ho : Nat → Nat) (hn : Nat → Nat) (hg : Nat → Nat) (hm : Nat → Nat) (hp : Nat → Nat) (wc : Nat) (wd : Nat) (tf : Nat) (h : Nat) (z : Nat) (hh0 : h < 4294967296) (hz0 : z < 4294967296) (hs : jf_ok s) (hho : jlt 2 ho) (hhn : jlt 256 hn) (hhg : jlt 256 hg) (hhm : jlt 5 hm) (hhp : jlt 65 hp) : jL l yn_L_seek cd_L_seek 4 (some .int) hh_L_seek { frames := 8, cells := 4, slots := 24, locals := 135 } G (tJ cS cC cH) ((wJ qJ qH qh cH qI qD qS qC cS cC s c ho hn hg hm hp wc wd tf)) [.ref qJ, .int (nI (h)), .int (nI (z))] (fun o w => (((jf_seekT s ho hn hg hm h z)) = 0 ∧ o = some (.int (nI 0)) ∧ w = (wJ qJ qH qh cH qI qD qS qC cS cC s c ho hn hg hm (ju hp h z) wc wd tf)) ∨ (¬ ((jf_seekT s ho hn hg hm h z)) = 0 ∧ o = some (.int (nI (je_m ((jf_seekT s ho hn hg hm h z))))) ∧ w = (wJ qJ qH qh cH qI qD qS qC cS cC s c ho hn hg hm hp wc wd tf))) := by
  refine jL_of (by decide) (Nat.le_of_ble_eq_true rfl) ?_
  intro pr en σ mi bel met cd ls A hA C htb hz hy hP hK hD hS hl
  have hx := C.1
  have hb := C.2.1
  have hown := C.2.2.2.1
  have hts := C.2.2.2.2.1
  have hl : lv_has ls 4 [(0, .ref qJ), (1, .int (nI (h))), (2, .int (nI (z)))] := hl
  refine lv_aload_n hx hb dd_L_seek_0 rfl (lv_at hl 0 rfl) ?_
  refine lv_iload_n hx hb dd_L_seek_1 rfl (lv_at hl 1 rfl) ?_
  refine lv_iload_n hx hb dd_L_seek_2 rfl (lv_at hl 2 rfl) ?_
  refine jt_callV (wr := []) C hz (ct_J_seek l hl9 G qJ qH qh cH qI qD qS qC cS cC s c ho hn hg hm hp wc wd tf h z hh0 hz0 hs hho hhn hhg hhm hhp) kl_L_37 ⟨Nat.le_of_ble_eq_true rfl, Nat.le_of_ble_eq_true rfl⟩ ⟨Nat.le_of_ble_eq_true rfl, Nat.le_of_ble_eq_true rfl⟩ hP hD hS hA (hK) (va_recv hK hP (ci := 3) (q0 := 4) rfl rfl) hl.1 rfl rfl (Nat.le_of_ble_eq_true rfl) dd_L_seek_3 (fun E w1 H locs q9 ce hxx hP hD hS g1 g2 g3 => ?_) (fun o w1 H locs hxx hP hD hS => ?_)
  · obtain ⟨h0, rfl, rfl⟩ := hxx
    rcases jk_seek s ho hn hg hm h z with h9 | h9 | h9
    · exact absurd h9 h0
    · have hE : jex ((jf_seekT s ho hn hg hm h z)) = "java/lang/IllegalArgumentException" := by rw [h9]; rfl
      rw [hE] at g3
      refine vx_catch (own := cn_L) (name := "java/lang/IllegalArgumentException") (E := "java/lang/IllegalArgumentException") hown [] ⟨0, 6, 9, 13⟩ [⟨0, 6, 12, 17⟩] (htb.trans rfl) (fun _ h => absurd h List.not_mem_nil) rfl (by decide) (hts _ tc_L_1) (va_Nw.use rfl (hz.1 _ (by simp [jzl]))) g1 g2 g3 ?_
      refine lv_astore_n (lv' := [(3, .ref q9), (0, .ref qJ), (1, .int (nI (h))), (2, .int (nI (z)))]) hx hb dd_L_seek_9 rfl hl (by decide) rfl (fun ls hl => ?_)
      refine lv_iconst (v := nI 1) hx hb dd_L_seek_10 (by decide) ?_
      exact jt_reti C (Or.inr ⟨h0, by rw [h9]; rfl, rfl⟩) hP hD hK hS ⟨Nat.le_of_ble_eq_true rfl, Nat.le_of_ble_eq_true rfl⟩ dd_L_seek_11
    · have hE : jex ((jf_seekT s ho hn hg hm h z)) = "java/lang/IllegalStateException" := by rw [h9]; rfl
      rw [hE] at g3
      refine vx_catch (own := cn_L) (name := "java/lang/IllegalStateException") (E := "java/lang/IllegalStateException") hown [⟨0, 6, 9, 13⟩] ⟨0, 6, 12, 17⟩ [] (htb.trans rfl) (List.forall_mem_cons.mpr ⟨Or.inr ⟨by decide, "java/lang/IllegalArgumentException", hts _ tc_L_1, hy.2.1⟩, (fun _ h => absurd h List.not_mem_nil)⟩) rfl (by decide) (hts _ tc_L_3) (va_Nw.use rfl (hz.1 _ (by simp [jzl]))) g1 g2 g3 ?_
      refine lv_astore_n (lv' := [(3, .ref q9), (0, .ref qJ), (1, .int (nI (h))), (2, .int (nI (z)))]) hx hb dd_L_seek_12 rfl hl (by decide) rfl (fun ls hl => ?_)
      refine lv_iconst (v := nI 2) hx hb dd_L_seek_13 (by decide) ?_
      exact jt_reti C (Or.inr ⟨h0, by rw [h9]; rfl, rfl⟩) hP hD hK hS ⟨Nat.le_of_ble_eq_true rfl, Nat.le_of_ble_eq_true rfl⟩ dd_L_seek_14
  · obtain ⟨h0, rfl, rfl⟩ := hxx
    refine lv_goto (tgt := 15) hx hb dd_L_seek_6 (by decide) ?_
    refine lv_iconst (v := nI 0) hx hb dd_L_seek_15 (by decide) ?_
    exact jt_reti C (Or.inl ⟨h0, rfl, rfl⟩) hP hD hK hS ⟨Nat.le_of_ble_eq_true rfl, Nat.le_of_ble_eq_true rfl⟩ dd_L_seek_16

abbrev hh_L_next : List (Nat × Nat × Nat × Nat) := [(0, 9, 12, 13), (0, 9, 15, 17)]
theorem kw_L_next : jc_L cn_L 103 yn_L_next cd_L_next 4 (some .int) hh_L_next 3 := ⟨jb_t (List.mem_append_right _ (List.mem_append_right _ (List.mem_append_left _ (List.mem_of_getElem? (i := 4) rfl)))) rfl, jb_t (List.mem_append_right _ (List.mem_append_right _ (List.mem_append_left _ (List.mem_of_getElem? (i := 5) rfl)))) rfl, tw_0, jb_t (List.mem_append_right _ (List.mem_append_right _ (List.mem_append_left _ (List.mem_of_getElem? (i := 6) rfl)))) rfl, by decide +kernel⟩
set_option maxHeartbeats 4000000 in
set_option maxRecDepth 100000 in
theorem ct_L_next (l : Launch) (hl9 : l.stackTraces = false) (G : va_G) (qJ : Nat) (qH : Nat) (qh : Nat → Nat) (cH : ClassId) (qI : Nat) (qD : Nat) (qS : Nat) (qC : Nat) (cS : ClassId) (cC : ClassId) (s : Nat → Nat) (c : Nat → Nat) (ho : Nat → Nat) (hn : Nat → Nat) (hg : Nat → Nat) (hm : Nat → Nat) (hp : Nat → Nat) (wc : Nat) (wd : Nat) (tf : Nat) (qw : Nat) (cw : ClassId) (fw : Nat → Int64) (h : Nat) (hh0 : h < 4294967296) (hs : jf_ok s) (hho : jlt 2 ho) (hhn : jlt 256 hn) (hhg : jlt 256 hg) (hhm : jlt 5 hm) (hhp : jlt 65 hp) : jL l yn_L_next cd_L_next 4 (some .int) hh_L_next { frames := 8, cells := 3, slots := 18, locals := 135 } G (tJ cS cC cH ++ [(cw, .long)]) ((wJ qJ qH qh cH qI qD qS qC cS cC s c ho hn hg hm hp wc wd tf) ++ [(qw, .inl (cw, 1, .inr (.inl fw)))]) [.ref qJ, .int (nI (h)), .ref qw] (fun o w => (((jf_nextT s ho hn hg hm h)) = 0 ∧ o = some (.int (nI 0)) ∧ w = (wJ qJ qH qh cH qI qD qS qC cS cC s c ho hn hg hm (if hp h < jf_entries s (hn h) then ju hp h (hp h + 1) else hp) wc wd tf) ++ [(qw, .inl (cw, 1, .inr (.inl (vp_updL fw (nI 0).toNatClampNeg (lN ((if hp h < jf_entries s (hn h) then jf_entryName s (hn h) (hp h) else 0)))))))]) ∨ (¬ ((jf_nextT s ho hn hg hm h)) = 0 ∧ o = some (.int (nI (je_m ((jf_nextT s ho hn hg hm h))))) ∧ w = (wJ qJ qH qh cH qI qD qS qC cS cC s c ho hn hg hm hp wc wd tf) ++ [(qw, .inl (cw, 1, .inr (.inl fw)))])) := by
  refine jL_of (by decide) (Nat.le_of_ble_eq_true rfl) ?_
  intro pr en σ mi bel met cd ls A hA C htb hz hy hP hK hD hS hl
  have hx := C.1
  have hb := C.2.1
  have hown := C.2.2.2.1
  have hts := C.2.2.2.2.1
  have hl : lv_has ls 4 [(0, .ref qJ), (1, .int (nI (h))), (2, .ref qw)] := hl
  refine lv_aload_n hx hb dd_L_next_0 rfl (lv_at hl 2 rfl) ?_
  refine lv_iconst (v := nI 0) hx hb dd_L_next_1 (by decide) ?_
  refine lv_aload_n hx hb dd_L_next_2 rfl (lv_at hl 0 rfl) ?_
  refine lv_iload_n hx hb dd_L_next_3 rfl (lv_at hl 1 rfl) ?_
  refine jt_callV (wr := [(qw, .inl (cw, 1, .inr (.inl fw)))]) C hz (ct_J_next l hl9 G qJ qH qh cH qI qD qS qC cS cC s c ho hn hg hm hp wc wd tf h hh0 hs hho hhn hhg hhm hhp) kl_L_41 ⟨Nat.le_of_ble_eq_true rfl, Nat.le_of_ble_eq_true rfl⟩ ⟨Nat.le_of_ble_eq_true rfl, Nat.le_of_ble_eq_true rfl⟩ hP hD hS hA (hK.sub [0, 1, 2] rfl) (va_recv hK hP (ci := 3) (q0 := 4) rfl rfl) hl.1 rfl rfl (Nat.le_of_ble_eq_true rfl) dd_L_next_4 (fun E w1 H locs q9 ce hxx hP hD hS g1 g2 g3 => ?_) (fun o w1 H locs hxx hP hD hS => ?_)
  · obtain ⟨h0, rfl, rfl⟩ := hxx
    rcases jk_next s ho hn hg hm h with h9 | h9 | h9
    · exact absurd h9 h0
    · have hE : jex ((jf_nextT s ho hn hg hm h)) = "java/lang/IllegalArgumentException" := by rw [h9]; rfl
      rw [hE] at g3
      refine vx_catch (own := cn_L) (name := "java/lang/IllegalArgumentException") (E := "java/lang/IllegalArgumentException") hown [] ⟨0, 9, 12, 13⟩ [⟨0, 9, 15, 17⟩] (htb.trans rfl) (fun _ h => absurd h List.not_mem_nil) rfl (by decide) (hts _ tc_L_1) (va_Nw.use rfl (hz.1 _ (by simp [jzl]))) g1 g2 g3 ?_
      refine lv_astore_n (lv' := [(3, .ref q9), (0, .ref qJ), (1, .int (nI (h))), (2, .ref qw)]) hx hb dd_L_next_12 rfl hl (by decide) rfl (fun ls hl => ?_)
      refine lv_iconst (v := nI 1) hx hb dd_L_next_13 (by decide) ?_
      exact jt_reti C (Or.inr ⟨h0, by rw [h9]; rfl, rfl⟩) hP hD hK hS ⟨Nat.le_of_ble_eq_true rfl, Nat.le_of_ble_eq_true rfl⟩ dd_L_next_14
    · have hE : jex ((jf_nextT s ho hn hg hm h)) = "java/lang/IllegalStateException" := by rw [h9]; rfl
      rw [hE] at g3
      refine vx_catch (own := cn_L) (name := "java/lang/IllegalStateException") (E := "java/lang/IllegalStateException") hown [⟨0, 9, 12, 13⟩] ⟨0, 9, 15, 17⟩ [] (htb.trans rfl) (List.forall_mem_cons.mpr ⟨Or.inr ⟨by decide, "java/lang/IllegalArgumentException", hts _ tc_L_1, hy.2.1⟩, (fun _ h => absurd h List.not_mem_nil)⟩) rfl (by decide) (hts _ tc_L_3) (va_Nw.use rfl (hz.1 _ (by simp [jzl]))) g1 g2 g3 ?_
      refine lv_astore_n (lv' := [(3, .ref q9), (0, .ref qJ), (1, .int (nI (h))), (2, .ref qw)]) hx hb dd_L_next_15 rfl hl (by decide) rfl (fun ls hl => ?_)
      refine lv_iconst (v := nI 2) hx hb dd_L_next_16 (by decide) ?_
      exact jt_reti C (Or.inr ⟨h0, by rw [h9]; rfl, rfl⟩) hP hD hK hS ⟨Nat.le_of_ble_eq_true rfl, Nat.le_of_ble_eq_true rfl⟩ dd_L_next_17
  · obtain ⟨h0, rfl, rfl⟩ := hxx
    refine jl_i2l hx hb (jk_nextv hs _ _ _) dd_L_next_7 ?_
    refine va_last hx hb hK hP hD hS 12 3 rfl rfl (vp_in_nI (by decide) (by decide)) dd_L_next_8 (fun H locs hP hD hS => ?_)
    refine lv_goto (tgt := 18) hx hb dd_L_next_9 (by decide) ?_
    refine lv_iconst (v := nI 0) hx hb dd_L_next_18 (by decide) ?_
    exact jt_reti C (Or.inl ⟨h0, rfl, rfl⟩) hP hD hK hS ⟨Nat.le_of_ble_eq_true rfl, Nat.le_of_ble_eq_true rfl⟩ dd_L_next_19

abbrev hh_L_remove : List (Nat × Nat × Nat × Nat) := [(0, 5, 8, 13), (0, 5, 11, 15), (0, 5, 14, 17)]
theorem kw_L_remove : jc_L cn_L 106 yn_L_remove cd_L_remove 3 (some .int) hh_L_remove 2 := ⟨jb_t (List.mem_append_right _ (List.mem_append_right _ (List.mem_append_left _ (List.mem_of_getElem? (i := 17) rfl)))) rfl, jb_t (List.mem_append_right _ (List.mem_append_right _ (List.mem_append_left _ (List.mem_of_getElem? (i := 18) rfl)))) rfl, tw_0, jb_t (List.mem_append_right _ (List.mem_append_right _ (List.mem_append_left _ (List.mem_of_getElem? (i := 19) rfl)))) rfl, by decide +kernel⟩
set_option maxHeartbeats 4000000 in
set_option maxRecDepth 100000 in
theorem ct_L_remove (l : Launch) (hl9 : l.stackTraces = false) (G : va_G) (qJ : Nat) (qH : Nat) (qh : Nat → Nat) (cH : ClassId) (qI : Nat) (qD : Nat) (qS : Nat) (qC : Nat) (cS : ClassId) (cC : ClassId) (s : Nat → Nat) (c : Nat → Nat) (ho : Nat → Nat) (hn : Nat → Nat) (hg : Nat → Nat) (hm : Nat → Nat) (hp : Nat → Nat) (wc : Nat) (wd : Nat) (tf : Nat) (u : Nat) (hu0 : u < 4294967296) (hs : jf_ok s) : jL l yn_L_remove cd_L_remove 3 (some .int) hh_L_remove { frames := 8, cells := 4, slots := 24, locals := 178 } G (tJ cS cC cH) ((wJ qJ qH qh cH qI qD qS qC cS cC s c ho hn hg hm hp wc wd tf)) [.ref qJ, .int (nI (u))] (fun o w => (((jf_rmT s u)) = 0 ∧ o = some (.int (nI 0)) ∧ w = (wJ qJ qH qh cH qI qD qS qC cS cC (jf_vacate (jf_dropEntry s ((jf_inodeAt s (u / 2 ^ 8)).getD 0) (u % 256)) ((jf_inodeAt s u).getD 0)) c ho hn hg hm hp wc wd tf)) ∨ (¬ ((jf_rmT s u)) = 0 ∧ o = some (.int (nI ((jf_rmT s u)))) ∧ w = (wJ qJ qH qh cH qI qD qS qC cS cC s c ho hn hg hm hp wc wd tf))) := by
  refine jL_of (by decide) (Nat.le_of_ble_eq_true rfl) ?_
  intro pr en σ mi bel met cd ls A hA C htb hz hy hP hK hD hS hl
  have hx := C.1
  have hb := C.2.1
  have hown := C.2.2.2.1
  have hts := C.2.2.2.2.1
  have hl : lv_has ls 3 [(0, .ref qJ), (1, .int (nI (u)))] := hl
  refine lv_aload_n hx hb dd_L_remove_0 rfl (lv_at hl 0 rfl) ?_
  refine lv_iload_n hx hb dd_L_remove_1 rfl (lv_at hl 1 rfl) ?_
  refine jt_callV (wr := []) C hz (ct_J_remove l hl9 G qJ qH qh cH qI qD qS qC cS cC s c ho hn hg hm hp wc wd tf u hu0 hs) kl_L_44 ⟨Nat.le_of_ble_eq_true rfl, Nat.le_of_ble_eq_true rfl⟩ ⟨Nat.le_of_ble_eq_true rfl, Nat.le_of_ble_eq_true rfl⟩ hP hD hS hA (hK) (va_recv hK hP (ci := 3) (q0 := 4) rfl rfl) hl.1 rfl rfl (Nat.le_of_ble_eq_true rfl) dd_L_remove_2 (fun E w1 H locs q9 ce hxx hP hD hS g1 g2 g3 => ?_) (fun o w1 H locs hxx hP hD hS => ?_)
  · obtain ⟨h0, rfl, rfl⟩ := hxx
    rcases jk_rm s u with h9 | h9 | h9 | h9
    · exact absurd h9 h0
    · have hE : jex ((jf_rmT s u)) = "java/lang/IllegalArgumentException" := by rw [h9]; rfl
      rw [hE] at g3
      refine vx_catch (own := cn_L) (name := "java/lang/IllegalArgumentException") (E := "java/lang/IllegalArgumentException") hown [] ⟨0, 5, 8, 13⟩ [⟨0, 5, 11, 15⟩, ⟨0, 5, 14, 17⟩] (htb.trans rfl) (fun _ h => absurd h List.not_mem_nil) rfl (by decide) (hts _ tc_L_1) (va_Nw.use rfl (hz.1 _ (by simp [jzl]))) g1 g2 g3 ?_
      refine lv_astore_n (lv' := [(2, .ref q9), (0, .ref qJ), (1, .int (nI (u)))]) hx hb dd_L_remove_8 rfl hl (by decide) rfl (fun ls hl => ?_)
      refine lv_iconst (v := nI 1) hx hb dd_L_remove_9 (by decide) ?_
      exact jt_reti C (Or.inr ⟨h0, by rw [h9], rfl⟩) hP hD hK hS ⟨Nat.le_of_ble_eq_true rfl, Nat.le_of_ble_eq_true rfl⟩ dd_L_remove_10
    · have hE : jex ((jf_rmT s u)) = "java/util/NoSuchElementException" := by rw [h9]; rfl
      rw [hE] at g3
      refine vx_catch (own := cn_L) (name := "java/util/NoSuchElementException") (E := "java/util/NoSuchElementException") hown [⟨0, 5, 8, 13⟩] ⟨0, 5, 11, 15⟩ [⟨0, 5, 14, 17⟩] (htb.trans rfl) (List.forall_mem_cons.mpr ⟨Or.inr ⟨by decide, "java/lang/IllegalArgumentException", hts _ tc_L_1, hy.1⟩, (fun _ h => absurd h List.not_mem_nil)⟩) rfl (by decide) (hts _ tc_L_2) (va_Nw.use rfl (hz.1 _ (by simp [jzl]))) g1 g2 g3 ?_
      refine lv_astore_n (lv' := [(2, .ref q9), (0, .ref qJ), (1, .int (nI (u)))]) hx hb dd_L_remove_11 rfl hl (by decide) rfl (fun ls hl => ?_)
      refine lv_iconst (v := nI 2) hx hb dd_L_remove_12 (by decide) ?_
      exact jt_reti C (Or.inr ⟨h0, by rw [h9], rfl⟩) hP hD hK hS ⟨Nat.le_of_ble_eq_true rfl, Nat.le_of_ble_eq_true rfl⟩ dd_L_remove_13
    · have hE : jex ((jf_rmT s u)) = "java/lang/IllegalStateException" := by rw [h9]; rfl
      rw [hE] at g3
      refine vx_catch (own := cn_L) (name := "java/lang/IllegalStateException") (E := "java/lang/IllegalStateException") hown [⟨0, 5, 8, 13⟩, ⟨0, 5, 11, 15⟩] ⟨0, 5, 14, 17⟩ [] (htb.trans rfl) (List.forall_mem_cons.mpr ⟨Or.inr ⟨by decide, "java/lang/IllegalArgumentException", hts _ tc_L_1, hy.2.1⟩, (List.forall_mem_cons.mpr ⟨Or.inr ⟨by decide, "java/util/NoSuchElementException", hts _ tc_L_2, hy.2.2.1⟩, (fun _ h => absurd h List.not_mem_nil)⟩)⟩) rfl (by decide) (hts _ tc_L_3) (va_Nw.use rfl (hz.1 _ (by simp [jzl]))) g1 g2 g3 ?_
      refine lv_astore_n (lv' := [(2, .ref q9), (0, .ref qJ), (1, .int (nI (u)))]) hx hb dd_L_remove_14 rfl hl (by decide) rfl (fun ls hl => ?_)
      refine lv_iconst (v := nI 3) hx hb dd_L_remove_15 (by decide) ?_
      exact jt_reti C (Or.inr ⟨h0, by rw [h9], rfl⟩) hP hD hK hS ⟨Nat.le_of_ble_eq_true rfl, Nat.le_of_ble_eq_true rfl⟩ dd_L_remove_16
  · obtain ⟨h0, rfl, rfl⟩ := hxx
    refine lv_goto (tgt := 17) hx hb dd_L_remove_5 (by decide) ?_
    refine lv_iconst (v := nI 0) hx hb dd_L_remove_17 (by decide) ?_
    exact jt_reti C (Or.inl ⟨h0, rfl, rfl⟩) hP hD hK hS ⟨Nat.le_of_ble_eq_true rfl, Nat.le_of_ble_eq_true rfl⟩ dd_L_remove_18

abbrev hh_L_rename : List (Nat × Nat × Nat × Nat) := [(0, 6, 9, 13), (0, 6, 12, 15), (0, 6, 15, 17), (0, 6, 18, 19)]
theorem kw_L_rename : jc_L cn_L 109 yn_L_rename cd_L_rename 4 (some .int) hh_L_rename 3 := ⟨jb_t (List.mem_append_right _ (List.mem_append_right _ (List.mem_append_left _ (List.mem_of_getElem? (i := 42) rfl)))) rfl, jb_t (List.mem_append_right _ (List.mem_append_right _ (List.mem_append_left _ (List.mem_of_getElem? (i := 43) rfl)))) rfl, tw_0, jb_t (List.mem_append_right _ (List.mem_append_right _ (List.mem_append_left _ (List.mem_of_getElem? (i := 44) rfl)))) rfl, by decide +kernel⟩
set_option maxHeartbeats 4000000 in
set_option maxRecDepth 100000 in
theorem ct_L_rename (l : Launch) (hl9 : l.stackTraces = false) (G : va_G) (qJ : Nat) (qH : Nat) (qh : Nat → Nat) (cH : ClassId) (qI : Nat) (qD : Nat) (qS : Nat) (qC : Nat) (cS : ClassId) (cC : ClassId) (s : Nat → Nat) (c : Nat → Nat) (ho : Nat → Nat) (hn : Nat → Nat) (hg : Nat → Nat) (hm : Nat → Nat) (hp : Nat → Nat) (wc : Nat) (wd : Nat) (tf : Nat) (u : Nat) (v : Nat) (hu0 : u < 4294967296) (hv0 : v < 4294967296) (hs : jf_ok s) (hq : jf_entries (jf_dropEntry s ((jf_inodeAt s (u / 2 ^ 8)).getD 0) (u % 256)) ((jf_inodeAt s (v / 2 ^ 8)).getD 0) < 127) : jL l yn_L_rename cd_L_rename 4 (some .int) hh_L_rename { frames := 8, cells := 7, slots := 42, locals := 182 } G (tJ cS cC cH) ((wJ qJ qH qh cH qI qD qS qC cS cC s c ho hn hg hm hp wc wd tf)) [.ref qJ, .int (nI (u)), .int (nI (v))] (fun o w => (((jf_rnmT s u v)) = 0 ∧ o = some (.int (nI 0)) ∧ w = (wJ qJ qH qh cH qI qD qS qC cS cC (jf_rnmS s u v) c ho hn hg hm hp wc wd tf)) ∨ (¬ ((jf_rnmT s u v)) = 0 ∧ o = some (.int (nI ((jf_rnmT s u v)))) ∧ w = (wJ qJ qH qh cH qI qD qS qC cS cC s c ho hn hg hm hp wc wd tf))) := by
  refine jL_of (by decide) (Nat.le_of_ble_eq_true rfl) ?_
  intro pr en σ mi bel met cd ls A hA C htb hz hy hP hK hD hS hl
  have hx := C.1
  have hb := C.2.1
  have hown := C.2.2.2.1
  have hts := C.2.2.2.2.1
  have hl : lv_has ls 4 [(0, .ref qJ), (1, .int (nI (u))), (2, .int (nI (v)))] := hl
  refine lv_aload_n hx hb dd_L_rename_0 rfl (lv_at hl 0 rfl) ?_
  refine lv_iload_n hx hb dd_L_rename_1 rfl (lv_at hl 1 rfl) ?_
  refine lv_iload_n hx hb dd_L_rename_2 rfl (lv_at hl 2 rfl) ?_
  refine jt_callV (wr := []) C hz (ct_J_rename l hl9 G qJ qH qh cH qI qD qS qC cS cC s c ho hn hg hm hp wc wd tf u v hu0 hv0 hs hq) kl_L_47 ⟨Nat.le_of_ble_eq_true rfl, Nat.le_of_ble_eq_true rfl⟩ ⟨Nat.le_of_ble_eq_true rfl, Nat.le_of_ble_eq_true rfl⟩ hP hD hS hA (hK) (va_recv hK hP (ci := 3) (q0 := 4) rfl rfl) hl.1 rfl rfl (Nat.le_of_ble_eq_true rfl) dd_L_rename_3 (fun E w1 H locs q9 ce hxx hP hD hS g1 g2 g3 => ?_) (fun o w1 H locs hxx hP hD hS => ?_)
  · obtain ⟨h0, rfl, rfl⟩ := hxx
    rcases jk_rnm s u v with h9 | h9 | h9 | h9 | h9
    · exact absurd h9 h0
    · have hE : jex ((jf_rnmT s u v)) = "java/lang/IllegalArgumentException" := by rw [h9]; rfl
      rw [hE] at g3
      refine vx_catch (own := cn_L) (name := "java/lang/IllegalArgumentException") (E := "java/lang/IllegalArgumentException") hown [] ⟨0, 6, 9, 13⟩ [⟨0, 6, 12, 15⟩, ⟨0, 6, 15, 17⟩, ⟨0, 6, 18, 19⟩] (htb.trans rfl) (fun _ h => absurd h List.not_mem_nil) rfl (by decide) (hts _ tc_L_1) (va_Nw.use rfl (hz.1 _ (by simp [jzl]))) g1 g2 g3 ?_
      refine lv_astore_n (lv' := [(3, .ref q9), (0, .ref qJ), (1, .int (nI (u))), (2, .int (nI (v)))]) hx hb dd_L_rename_9 rfl hl (by decide) rfl (fun ls hl => ?_)
      refine lv_iconst (v := nI 1) hx hb dd_L_rename_10 (by decide) ?_
      exact jt_reti C (Or.inr ⟨h0, by rw [h9], rfl⟩) hP hD hK hS ⟨Nat.le_of_ble_eq_true rfl, Nat.le_of_ble_eq_true rfl⟩ dd_L_rename_11
    · have hE : jex ((jf_rnmT s u v)) = "java/util/NoSuchElementException" := by rw [h9]; rfl
      rw [hE] at g3
      refine vx_catch (own := cn_L) (name := "java/util/NoSuchElementException") (E := "java/util/NoSuchElementException") hown [⟨0, 6, 9, 13⟩] ⟨0, 6, 12, 15⟩ [⟨0, 6, 15, 17⟩, ⟨0, 6, 18, 19⟩] (htb.trans rfl) (List.forall_mem_cons.mpr ⟨Or.inr ⟨by decide, "java/lang/IllegalArgumentException", hts _ tc_L_1, hy.1⟩, (fun _ h => absurd h List.not_mem_nil)⟩) rfl (by decide) (hts _ tc_L_2) (va_Nw.use rfl (hz.1 _ (by simp [jzl]))) g1 g2 g3 ?_
      refine lv_astore_n (lv' := [(3, .ref q9), (0, .ref qJ), (1, .int (nI (u))), (2, .int (nI (v)))]) hx hb dd_L_rename_12 rfl hl (by decide) rfl (fun ls hl => ?_)
      refine lv_iconst (v := nI 2) hx hb dd_L_rename_13 (by decide) ?_
      exact jt_reti C (Or.inr ⟨h0, by rw [h9], rfl⟩) hP hD hK hS ⟨Nat.le_of_ble_eq_true rfl, Nat.le_of_ble_eq_true rfl⟩ dd_L_rename_14
    · have hE : jex ((jf_rnmT s u v)) = "java/lang/IllegalStateException" := by rw [h9]; rfl
      rw [hE] at g3
      refine vx_catch (own := cn_L) (name := "java/lang/IllegalStateException") (E := "java/lang/IllegalStateException") hown [⟨0, 6, 9, 13⟩, ⟨0, 6, 12, 15⟩] ⟨0, 6, 15, 17⟩ [⟨0, 6, 18, 19⟩] (htb.trans rfl) (List.forall_mem_cons.mpr ⟨Or.inr ⟨by decide, "java/lang/IllegalArgumentException", hts _ tc_L_1, hy.2.1⟩, (List.forall_mem_cons.mpr ⟨Or.inr ⟨by decide, "java/util/NoSuchElementException", hts _ tc_L_2, hy.2.2.1⟩, (fun _ h => absurd h List.not_mem_nil)⟩)⟩) rfl (by decide) (hts _ tc_L_3) (va_Nw.use rfl (hz.1 _ (by simp [jzl]))) g1 g2 g3 ?_
      refine lv_astore_n (lv' := [(3, .ref q9), (0, .ref qJ), (1, .int (nI (u))), (2, .int (nI (v)))]) hx hb dd_L_rename_15 rfl hl (by decide) rfl (fun ls hl => ?_)
      refine lv_iconst (v := nI 3) hx hb dd_L_rename_16 (by decide) ?_
      exact jt_reti C (Or.inr ⟨h0, by rw [h9], rfl⟩) hP hD hK hS ⟨Nat.le_of_ble_eq_true rfl, Nat.le_of_ble_eq_true rfl⟩ dd_L_rename_17
    · have hE : jex ((jf_rnmT s u v)) = "java/lang/UnsupportedOperationException" := by rw [h9]; rfl
      rw [hE] at g3
      refine vx_catch (own := cn_L) (name := "java/lang/UnsupportedOperationException") (E := "java/lang/UnsupportedOperationException") hown [⟨0, 6, 9, 13⟩, ⟨0, 6, 12, 15⟩, ⟨0, 6, 15, 17⟩] ⟨0, 6, 18, 19⟩ [] (htb.trans rfl) (List.forall_mem_cons.mpr ⟨Or.inr ⟨by decide, "java/lang/IllegalArgumentException", hts _ tc_L_1, hy.2.2.2.1⟩, (List.forall_mem_cons.mpr ⟨Or.inr ⟨by decide, "java/util/NoSuchElementException", hts _ tc_L_2, hy.2.2.2.2.1⟩, (List.forall_mem_cons.mpr ⟨Or.inr ⟨by decide, "java/lang/IllegalStateException", hts _ tc_L_3, hy.2.2.2.2.2⟩, (fun _ h => absurd h List.not_mem_nil)⟩)⟩)⟩) rfl (by decide) (hts _ tc_L_4) (va_Nw.use rfl (hz.1 _ (by simp [jzl]))) g1 g2 g3 ?_
      refine lv_astore_n (lv' := [(3, .ref q9), (0, .ref qJ), (1, .int (nI (u))), (2, .int (nI (v)))]) hx hb dd_L_rename_18 rfl hl (by decide) rfl (fun ls hl => ?_)
      refine lv_iconst (v := nI 4) hx hb dd_L_rename_19 (by decide) ?_
      exact jt_reti C (Or.inr ⟨h0, by rw [h9], rfl⟩) hP hD hK hS ⟨Nat.le_of_ble_eq_true rfl, Nat.le_of_ble_eq_true rfl⟩ dd_L_rename_20
  · obtain ⟨h0, rfl, rfl⟩ := hxx
    refine lv_goto (tgt := 21) hx hb dd_L_rename_6 (by decide) ?_
    refine lv_iconst (v := nI 0) hx hb dd_L_rename_21 (by decide) ?_
    exact jt_reti C (Or.inl ⟨h0, rfl, rfl⟩) hP hD hK hS ⟨Nat.le_of_ble_eq_true rfl, Nat.le_of_ble_eq_true rfl⟩ dd_L_rename_22

abbrev hh_L_truncate : List (Nat × Nat × Nat × Nat) := [(0, 6, 9, 13), (0, 6, 12, 15), (0, 6, 15, 17), (0, 6, 18, 19)]
theorem kw_L_truncate : jc_L cn_L 112 yn_L_truncate cd_L_truncate 4 (some .int) hh_L_truncate 3 := ⟨jb_t (List.mem_append_right _ (List.mem_append_right _ (List.mem_append_left _ (List.mem_of_getElem? (i := 68) rfl)))) rfl, jb_t (List.mem_append_right _ (List.mem_append_right _ (List.mem_append_left _ (List.mem_of_getElem? (i := 69) rfl)))) rfl, tw_0, jb_t (List.mem_append_right _ (List.mem_append_right _ (List.mem_append_left _ (List.mem_of_getElem? (i := 70) rfl)))) rfl, by decide +kernel⟩
set_option maxHeartbeats 4000000 in
set_option maxRecDepth 100000 in
theorem ct_L_truncate (l : Launch) (hl9 : l.stackTraces = false) (G : va_G) (qJ : Nat) (qH : Nat) (qh : Nat → Nat) (cH : ClassId) (qI : Nat) (qD : Nat) (qS : Nat) (qC : Nat) (cS : ClassId) (cC : ClassId) (s : Nat → Nat) (c : Nat → Nat) (ho : Nat → Nat) (hn : Nat → Nat) (hg : Nat → Nat) (hm : Nat → Nat) (hp : Nat → Nat) (wc : Nat) (wd : Nat) (tf : Nat) (u : Nat) (z : Nat) (hu0 : u < 4294967296) (hz0 : z < 4294967296) (hs : jf_ok s) : jL l yn_L_truncate cd_L_truncate 4 (some .int) hh_L_truncate { frames := 8, cells := 5, slots := 30, locals := 179 } G (tJ cS cC cH) ((wJ qJ qH qh cH qI qD qS qC cS cC s c ho hn hg hm hp wc wd tf)) [.ref qJ, .int (nI (u)), .int (nI (z))] (fun o w => (((jf_truT s u z)) = 0 ∧ o = some (.int (nI 0)) ∧ w = (wJ qJ qH qh cH qI qD qS qC cS cC (jf_resize s ((jf_inodeAt s u).getD 0) z) c ho hn hg hm hp wc wd tf)) ∨ (¬ ((jf_truT s u z)) = 0 ∧ o = some (.int (nI ((jf_truT s u z)))) ∧ w = (wJ qJ qH qh cH qI qD qS qC cS cC s c ho hn hg hm hp wc wd tf))) := by
  refine jL_of (by decide) (Nat.le_of_ble_eq_true rfl) ?_
  intro pr en σ mi bel met cd ls A hA C htb hz hy hP hK hD hS hl
  have hx := C.1
  have hb := C.2.1
  have hown := C.2.2.2.1
  have hts := C.2.2.2.2.1
  have hl : lv_has ls 4 [(0, .ref qJ), (1, .int (nI (u))), (2, .int (nI (z)))] := hl
  refine lv_aload_n hx hb dd_L_truncate_0 rfl (lv_at hl 0 rfl) ?_
  refine lv_iload_n hx hb dd_L_truncate_1 rfl (lv_at hl 1 rfl) ?_
  refine lv_iload_n hx hb dd_L_truncate_2 rfl (lv_at hl 2 rfl) ?_
  refine jt_callV (wr := []) C hz (ct_J_truncate l hl9 G qJ qH qh cH qI qD qS qC cS cC s c ho hn hg hm hp wc wd tf u z hu0 hz0 hs) kl_L_50 ⟨Nat.le_of_ble_eq_true rfl, Nat.le_of_ble_eq_true rfl⟩ ⟨Nat.le_of_ble_eq_true rfl, Nat.le_of_ble_eq_true rfl⟩ hP hD hS hA (hK) (va_recv hK hP (ci := 3) (q0 := 4) rfl rfl) hl.1 rfl rfl (Nat.le_of_ble_eq_true rfl) dd_L_truncate_3 (fun E w1 H locs q9 ce hxx hP hD hS g1 g2 g3 => ?_) (fun o w1 H locs hxx hP hD hS => ?_)
  · obtain ⟨h0, rfl, rfl⟩ := hxx
    rcases jk_tru s u z with h9 | h9 | h9 | h9 | h9
    · exact absurd h9 h0
    · have hE : jex ((jf_truT s u z)) = "java/lang/IllegalArgumentException" := by rw [h9]; rfl
      rw [hE] at g3
      refine vx_catch (own := cn_L) (name := "java/lang/IllegalArgumentException") (E := "java/lang/IllegalArgumentException") hown [] ⟨0, 6, 9, 13⟩ [⟨0, 6, 12, 15⟩, ⟨0, 6, 15, 17⟩, ⟨0, 6, 18, 19⟩] (htb.trans rfl) (fun _ h => absurd h List.not_mem_nil) rfl (by decide) (hts _ tc_L_1) (va_Nw.use rfl (hz.1 _ (by simp [jzl]))) g1 g2 g3 ?_
      refine lv_astore_n (lv' := [(3, .ref q9), (0, .ref qJ), (1, .int (nI (u))), (2, .int (nI (z)))]) hx hb dd_L_truncate_9 rfl hl (by decide) rfl (fun ls hl => ?_)
      refine lv_iconst (v := nI 1) hx hb dd_L_truncate_10 (by decide) ?_
      exact jt_reti C (Or.inr ⟨h0, by rw [h9], rfl⟩) hP hD hK hS ⟨Nat.le_of_ble_eq_true rfl, Nat.le_of_ble_eq_true rfl⟩ dd_L_truncate_11
    · have hE : jex ((jf_truT s u z)) = "java/util/NoSuchElementException" := by rw [h9]; rfl
      rw [hE] at g3
      refine vx_catch (own := cn_L) (name := "java/util/NoSuchElementException") (E := "java/util/NoSuchElementException") hown [⟨0, 6, 9, 13⟩] ⟨0, 6, 12, 15⟩ [⟨0, 6, 15, 17⟩, ⟨0, 6, 18, 19⟩] (htb.trans rfl) (List.forall_mem_cons.mpr ⟨Or.inr ⟨by decide, "java/lang/IllegalArgumentException", hts _ tc_L_1, hy.1⟩, (fun _ h => absurd h List.not_mem_nil)⟩) rfl (by decide) (hts _ tc_L_2) (va_Nw.use rfl (hz.1 _ (by simp [jzl]))) g1 g2 g3 ?_
      refine lv_astore_n (lv' := [(3, .ref q9), (0, .ref qJ), (1, .int (nI (u))), (2, .int (nI (z)))]) hx hb dd_L_truncate_12 rfl hl (by decide) rfl (fun ls hl => ?_)
      refine lv_iconst (v := nI 2) hx hb dd_L_truncate_13 (by decide) ?_
      exact jt_reti C (Or.inr ⟨h0, by rw [h9], rfl⟩) hP hD hK hS ⟨Nat.le_of_ble_eq_true rfl, Nat.le_of_ble_eq_true rfl⟩ dd_L_truncate_14
    · have hE : jex ((jf_truT s u z)) = "java/lang/IllegalStateException" := by rw [h9]; rfl
      rw [hE] at g3
      refine vx_catch (own := cn_L) (name := "java/lang/IllegalStateException") (E := "java/lang/IllegalStateException") hown [⟨0, 6, 9, 13⟩, ⟨0, 6, 12, 15⟩] ⟨0, 6, 15, 17⟩ [⟨0, 6, 18, 19⟩] (htb.trans rfl) (List.forall_mem_cons.mpr ⟨Or.inr ⟨by decide, "java/lang/IllegalArgumentException", hts _ tc_L_1, hy.2.1⟩, (List.forall_mem_cons.mpr ⟨Or.inr ⟨by decide, "java/util/NoSuchElementException", hts _ tc_L_2, hy.2.2.1⟩, (fun _ h => absurd h List.not_mem_nil)⟩)⟩) rfl (by decide) (hts _ tc_L_3) (va_Nw.use rfl (hz.1 _ (by simp [jzl]))) g1 g2 g3 ?_
      refine lv_astore_n (lv' := [(3, .ref q9), (0, .ref qJ), (1, .int (nI (u))), (2, .int (nI (z)))]) hx hb dd_L_truncate_15 rfl hl (by decide) rfl (fun ls hl => ?_)
      refine lv_iconst (v := nI 3) hx hb dd_L_truncate_16 (by decide) ?_
      exact jt_reti C (Or.inr ⟨h0, by rw [h9], rfl⟩) hP hD hK hS ⟨Nat.le_of_ble_eq_true rfl, Nat.le_of_ble_eq_true rfl⟩ dd_L_truncate_17
    · have hE : jex ((jf_truT s u z)) = "java/lang/UnsupportedOperationException" := by rw [h9]; rfl
      rw [hE] at g3
      refine vx_catch (own := cn_L) (name := "java/lang/UnsupportedOperationException") (E := "java/lang/UnsupportedOperationException") hown [⟨0, 6, 9, 13⟩, ⟨0, 6, 12, 15⟩, ⟨0, 6, 15, 17⟩] ⟨0, 6, 18, 19⟩ [] (htb.trans rfl) (List.forall_mem_cons.mpr ⟨Or.inr ⟨by decide, "java/lang/IllegalArgumentException", hts _ tc_L_1, hy.2.2.2.1⟩, (List.forall_mem_cons.mpr ⟨Or.inr ⟨by decide, "java/util/NoSuchElementException", hts _ tc_L_2, hy.2.2.2.2.1⟩, (List.forall_mem_cons.mpr ⟨Or.inr ⟨by decide, "java/lang/IllegalStateException", hts _ tc_L_3, hy.2.2.2.2.2⟩, (fun _ h => absurd h List.not_mem_nil)⟩)⟩)⟩) rfl (by decide) (hts _ tc_L_4) (va_Nw.use rfl (hz.1 _ (by simp [jzl]))) g1 g2 g3 ?_
      refine lv_astore_n (lv' := [(3, .ref q9), (0, .ref qJ), (1, .int (nI (u))), (2, .int (nI (z)))]) hx hb dd_L_truncate_18 rfl hl (by decide) rfl (fun ls hl => ?_)
      refine lv_iconst (v := nI 4) hx hb dd_L_truncate_19 (by decide) ?_
      exact jt_reti C (Or.inr ⟨h0, by rw [h9], rfl⟩) hP hD hK hS ⟨Nat.le_of_ble_eq_true rfl, Nat.le_of_ble_eq_true rfl⟩ dd_L_truncate_20
  · obtain ⟨h0, rfl, rfl⟩ := hxx
    refine lv_goto (tgt := 21) hx hb dd_L_truncate_6 (by decide) ?_
    refine lv_iconst (v := nI 0) hx hb dd_L_truncate_21 (by decide) ?_
    exact jt_reti C (Or.inl ⟨h0, rfl, rfl⟩) hP hD hK hS ⟨Nat.le_of_ble_eq_true rfl, Nat.le_of_ble_eq_true rfl⟩ dd_L_truncate_22

abbrev hh_L_stat : List (Nat × Nat × Nat × Nat) := [(0, 10, 13, 13), (0, 10, 17, 15)]
theorem kw_L_stat : jc_L cn_L 115 yn_L_stat cd_L_stat 5 (some .int) hh_L_stat 4 := ⟨jb_t (List.mem_append_right _ (List.mem_append_right _ (List.mem_append_left _ (List.mem_of_getElem? (i := 76) rfl)))) rfl, jb_t (List.mem_append_right _ (List.mem_append_right _ (List.mem_append_left _ (List.mem_of_getElem? (i := 77) rfl)))) rfl, tw_0, jb_t (List.mem_append_right _ (List.mem_append_right _ (List.mem_append_left _ (List.mem_of_getElem? (i := 78) rfl)))) rfl, by decide +kernel⟩
set_option maxHeartbeats 4000000 in
set_option maxRecDepth 100000 in
theorem ct_L_stat (l : Launch) (hl9 : l.stackTraces = false) (G : va_G) (qJ : Nat) (qH : Nat) (qh : Nat → Nat) (cH : ClassId) (qI : Nat) (qD : Nat) (qS : Nat) (qC : Nat) (cS : ClassId) (cC : ClassId) (s : Nat → Nat) (c : Nat → Nat) (ho : Nat → Nat) (hn : Nat → Nat) (hg : Nat → Nat) (hm : Nat → Nat) (hp : Nat → Nat) (wc : Nat) (wd : Nat) (tf : Nat) (qw : Nat) (cw : ClassId) (fw : Nat → Int64) (u : Nat) (z : Nat) (hu0 : u < 4294967296) (hz0 : z < 4294967296) (hs : jf_ok s) : jL l yn_L_stat cd_L_stat 5 (some .int) hh_L_stat { frames := 8, cells := 3, slots := 18, locals := 179 } G (tJ cS cC cH ++ [(cw, .long)]) ((wJ qJ qH qh cH qI qD qS qC cS cC s c ho hn hg hm hp wc wd tf) ++ [(qw, .inl (cw, 1, .inr (.inl fw)))]) [.ref qJ, .int (nI (u)), .int (nI (z)), .ref qw] (fun o w => (((jf_statT s u z)) = 0 ∧ o = some (.int (nI 0)) ∧ w = (wJ qJ qH qh cH qI qD qS qC cS cC s c ho hn hg hm hp wc wd tf) ++ [(qw, .inl (cw, 1, .inr (.inl (vp_updL fw (nI 0).toNatClampNeg (lN ((jf_statR s ((jf_inodeAt s u).getD 0) z)))))))]) ∨ (¬ ((jf_statT s u z)) = 0 ∧ o = some (.int (nI ((jf_statT s u z)))) ∧ w = (wJ qJ qH qh cH qI qD qS qC cS cC s c ho hn hg hm hp wc wd tf) ++ [(qw, .inl (cw, 1, .inr (.inl fw)))])) := by
  refine jL_of (by decide) (Nat.le_of_ble_eq_true rfl) ?_
  intro pr en σ mi bel met cd ls A hA C htb hz hy hP hK hD hS hl
  have hx := C.1
  have hb := C.2.1
  have hown := C.2.2.2.1
  have hts := C.2.2.2.2.1
  have hl : lv_has ls 5 [(0, .ref qJ), (1, .int (nI (u))), (2, .int (nI (z))), (3, .ref qw)] := hl
  refine lv_aload_n hx hb dd_L_stat_0 rfl (lv_at hl 3 rfl) ?_
  refine lv_iconst (v := nI 0) hx hb dd_L_stat_1 (by decide) ?_
  refine lv_aload_n hx hb dd_L_stat_2 rfl (lv_at hl 0 rfl) ?_
  refine lv_iload_n hx hb dd_L_stat_3 rfl (lv_at hl 1 rfl) ?_
  refine lv_iload_n hx hb dd_L_stat_4 rfl (lv_at hl 2 rfl) ?_
  refine jt_callV (wr := [(qw, .inl (cw, 1, .inr (.inl fw)))]) C hz (ct_J_stat l hl9 G qJ qH qh cH qI qD qS qC cS cC s c ho hn hg hm hp wc wd tf u z hu0 hz0 hs) kl_L_53 ⟨Nat.le_of_ble_eq_true rfl, Nat.le_of_ble_eq_true rfl⟩ ⟨Nat.le_of_ble_eq_true rfl, Nat.le_of_ble_eq_true rfl⟩ hP hD hS hA (hK.sub [0, 1, 2] rfl) (va_recv hK hP (ci := 3) (q0 := 4) rfl rfl) hl.1 rfl rfl (Nat.le_of_ble_eq_true rfl) dd_L_stat_5 (fun E w1 H locs q9 ce hxx hP hD hS g1 g2 g3 => ?_) (fun o w1 H locs hxx hP hD hS => ?_)
  · obtain ⟨h0, rfl, rfl⟩ := hxx
    rcases jk_stat s u z with h9 | h9 | h9
    · exact absurd h9 h0
    · have hE : jex ((jf_statT s u z)) = "java/lang/IllegalArgumentException" := by rw [h9]; rfl
      rw [hE] at g3
      refine vx_catch (own := cn_L) (name := "java/lang/IllegalArgumentException") (E := "java/lang/IllegalArgumentException") hown [] ⟨0, 10, 13, 13⟩ [⟨0, 10, 17, 15⟩] (htb.trans rfl) (fun _ h => absurd h List.not_mem_nil) rfl (by decide) (hts _ tc_L_1) (va_Nw.use rfl (hz.1 _ (by simp [jzl]))) g1 g2 g3 ?_
      refine lv_astore (lv' := [(4, .ref q9), (0, .ref qJ), (1, .int (nI (u))), (2, .int (nI (z))), (3, .ref qw)]) hx hb dd_L_stat_13 hl (by decide) rfl (fun ls hl => ?_)
      refine lv_iconst (v := nI 1) hx hb dd_L_stat_15 (by decide) ?_
      exact jt_reti C (Or.inr ⟨h0, by rw [h9], rfl⟩) hP hD hK hS ⟨Nat.le_of_ble_eq_true rfl, Nat.le_of_ble_eq_true rfl⟩ dd_L_stat_16
    · have hE : jex ((jf_statT s u z)) = "java/util/NoSuchElementException" := by rw [h9]; rfl
      rw [hE] at g3
      refine vx_catch (own := cn_L) (name := "java/util/NoSuchElementException") (E := "java/util/NoSuchElementException") hown [⟨0, 10, 13, 13⟩] ⟨0, 10, 17, 15⟩ [] (htb.trans rfl) (List.forall_mem_cons.mpr ⟨Or.inr ⟨by decide, "java/lang/IllegalArgumentException", hts _ tc_L_1, hy.1⟩, (fun _ h => absurd h List.not_mem_nil)⟩) rfl (by decide) (hts _ tc_L_2) (va_Nw.use rfl (hz.1 _ (by simp [jzl]))) g1 g2 g3 ?_
      refine lv_astore (lv' := [(4, .ref q9), (0, .ref qJ), (1, .int (nI (u))), (2, .int (nI (z))), (3, .ref qw)]) hx hb dd_L_stat_17 hl (by decide) rfl (fun ls hl => ?_)
      refine lv_iconst (v := nI 2) hx hb dd_L_stat_19 (by decide) ?_
      exact jt_reti C (Or.inr ⟨h0, by rw [h9], rfl⟩) hP hD hK hS ⟨Nat.le_of_ble_eq_true rfl, Nat.le_of_ble_eq_true rfl⟩ dd_L_stat_20
  · obtain ⟨h0, rfl, rfl⟩ := hxx
    refine jl_i2l hx hb (jk_statv hs _ _) dd_L_stat_8 ?_
    refine va_last hx hb hK hP hD hS 12 3 rfl rfl (vp_in_nI (by decide) (by decide)) dd_L_stat_9 (fun H locs hP hD hS => ?_)
    refine lv_goto (tgt := 21) hx hb dd_L_stat_10 (by decide) ?_
    refine lv_iconst (v := nI 0) hx hb dd_L_stat_21 (by decide) ?_
    exact jt_reti C (Or.inl ⟨h0, rfl, rfl⟩) hP hD hK hS ⟨Nat.le_of_ble_eq_true rfl, Nat.le_of_ble_eq_true rfl⟩ dd_L_stat_22

abbrev hh_L_commit : List (Nat × Nat × Nat × Nat) := [(0, 8, 11, 17)]
theorem kw_L_commit : jc_L cn_L 118 yn_L_commit cd_L_commit 3 (some .int) hh_L_commit 2 := ⟨jb_t (List.mem_append_right _ (List.mem_append_right _ (List.mem_append_left _ (List.mem_of_getElem? (i := 83) rfl)))) rfl, jb_t (List.mem_append_right _ (List.mem_append_right _ (List.mem_append_left _ (List.mem_of_getElem? (i := 84) rfl)))) rfl, tw_0, jb_t (List.mem_append_right _ (List.mem_append_right _ (List.mem_append_left _ (List.mem_of_getElem? (i := 85) rfl)))) rfl, by decide +kernel⟩
set_option maxHeartbeats 4000000 in
set_option maxRecDepth 100000 in
theorem ct_L_commit (l : Launch) (hl9 : l.stackTraces = false) (G : va_G) (qJ : Nat) (qH : Nat) (qh : Nat → Nat) (cH : ClassId) (qI : Nat) (qD : Nat) (qS : Nat) (qC : Nat) (cS : ClassId) (cC : ClassId) (s : Nat → Nat) (c : Nat → Nat) (ho : Nat → Nat) (hn : Nat → Nat) (hg : Nat → Nat) (hm : Nat → Nat) (hp : Nat → Nat) (wc : Nat) (wd : Nat) (tf : Nat) (qw : Nat) (cw : ClassId) (fw : Nat → Int64) (hw0 : wd < 1000000) (hc0 : wc ≤ 100) (ht0 : tf < 1000000) (hs : jf_ok s) (hc : jf_ok c) : jL l yn_L_commit cd_L_commit 3 (some .int) hh_L_commit { frames := 7, cells := 1, slots := 6, locals := 114 } G (tJ cS cC cH ++ [(cw, .long)]) ((wJ qJ qH qh cH qI qD qS qC cS cC s c ho hn hg hm hp wc wd tf) ++ [(qw, .inl (cw, 1, .inr (.inl fw)))]) [.ref qJ, .ref qw] (fun o w => (((jf_cT (jf_differing s c) wc)) = 0 ∧ o = some (.int (nI 0)) ∧ w = (wJ qJ qH qh cH qI qD qS qC cS cC s (jf_cpy s c) ho hn hg hm hp (if wc = 0 then 0 else wc - (jf_cmJ (jf_differing s c) + jf_differing s c)) (wd + (jf_cmJ (jf_differing s c) + jf_differing s c)) tf) ++ [(qw, .inl (cw, 1, .inr (.inl (vp_updL fw (nI 0).toNatClampNeg (lN ((jf_cmJ (jf_differing s c) + jf_differing s c)))))))]) ∨ (¬ ((jf_cT (jf_differing s c) wc)) = 0 ∧ o = some (.int (nI (1))) ∧ w = (wJ qJ qH qh cH qI qD qS qC cS cC (jf_cpy (if jf_cmJ (jf_differing s c) < wc then jf_cpy s c else c) s) (if jf_cmJ (jf_differing s c) < wc then jf_cpy s c else c) (jf_lpL 6 0 ho) hn hg hm hp 0 (wd + (wc - 1)) (tf + 1)) ++ [(qw, .inl (cw, 1, .inr (.inl fw)))])) := by
  refine jL_of (by decide) (Nat.le_of_ble_eq_true rfl) ?_
  intro pr en σ mi bel met cd ls A hA C htb hz hy hP hK hD hS hl
  have hx := C.1
  have hb := C.2.1
  have hown := C.2.2.2.1
  have hts := C.2.2.2.2.1
  have hl : lv_has ls 3 [(0, .ref qJ), (1, .ref qw)] := hl
  refine lv_aload_n hx hb dd_L_commit_0 rfl (lv_at hl 1 rfl) ?_
  refine lv_iconst (v := nI 0) hx hb dd_L_commit_1 (by decide) ?_
  refine lv_aload_n hx hb dd_L_commit_2 rfl (lv_at hl 0 rfl) ?_
  refine jt_callV (wr := [(qw, .inl (cw, 1, .inr (.inl fw)))]) C hz (ct_J_commit l hl9 G qJ qH qh cH qI qD qS qC cS cC s c ho hn hg hm hp wc wd tf hw0 hc0 ht0 hs hc) kl_L_57 ⟨Nat.le_of_ble_eq_true rfl, Nat.le_of_ble_eq_true rfl⟩ ⟨Nat.le_of_ble_eq_true rfl, Nat.le_of_ble_eq_true rfl⟩ hP hD hS hA (hK.sub [0, 1, 2] rfl) (va_recv hK hP (ci := 3) (q0 := 4) rfl rfl) hl.1 rfl rfl (Nat.le_of_ble_eq_true rfl) dd_L_commit_3 (fun E w1 H locs q9 ce hxx hP hD hS g1 g2 g3 => ?_) (fun o w1 H locs hxx hP hD hS => ?_)
  · obtain ⟨h0, rfl, rfl⟩ := hxx
    rcases jk_c (jf_differing s c) wc with h9 | h9
    · exact absurd h9 h0
    · have hE : jex ((jf_cT (jf_differing s c) wc)) = "java/lang/IllegalStateException" := by rw [h9]; rfl
      rw [hE] at g3
      refine vx_catch (own := cn_L) (name := "java/lang/IllegalStateException") (E := "java/lang/IllegalStateException") hown [] ⟨0, 8, 11, 17⟩ [] (htb.trans rfl) (fun _ h => absurd h List.not_mem_nil) rfl (by decide) (hts _ tc_L_3) (va_Nw.use rfl (hz.1 _ (by simp [jzl]))) g1 g2 g3 ?_
      refine lv_astore_n (lv' := [(2, .ref q9), (0, .ref qJ), (1, .ref qw)]) hx hb dd_L_commit_11 rfl hl (by decide) rfl (fun ls hl => ?_)
      refine lv_iconst (v := nI 1) hx hb dd_L_commit_12 (by decide) ?_
      exact jt_reti C (Or.inr ⟨h0, rfl, rfl⟩) hP hD hK hS ⟨Nat.le_of_ble_eq_true rfl, Nat.le_of_ble_eq_true rfl⟩ dd_L_commit_13
  · obtain ⟨h0, rfl, rfl⟩ := hxx
    refine jl_i2l hx hb (jk_commitv s c) dd_L_commit_6 ?_
    refine va_last hx hb hK hP hD hS 12 3 rfl rfl (vp_in_nI (by decide) (by decide)) dd_L_commit_7 (fun H locs hP hD hS => ?_)
    refine lv_goto (tgt := 14) hx hb dd_L_commit_8 (by decide) ?_
    refine lv_iconst (v := nI 0) hx hb dd_L_commit_14 (by decide) ?_
    exact jt_reti C (Or.inl ⟨h0, rfl, rfl⟩) hP hD hK hS ⟨Nat.le_of_ble_eq_true rfl, Nat.le_of_ble_eq_true rfl⟩ dd_L_commit_15

abbrev hh_L_cutPower : List (Nat × Nat × Nat × Nat) := [(0, 5, 8, 13)]
theorem kw_L_cutPower : jc_L cn_L 122 yn_L_cutPower cd_L_cutPower 3 (some .int) hh_L_cutPower 2 := ⟨jb_t (List.mem_append_right _ (List.mem_append_right _ (List.mem_append_left _ (List.mem_of_getElem? (i := 91) rfl)))) rfl, jb_t (List.mem_append_right _ (List.mem_append_right _ (List.mem_append_left _ (List.mem_of_getElem? (i := 92) rfl)))) rfl, tw_0, jb_t (List.mem_append_right _ (List.mem_append_right _ (List.mem_append_left _ (List.mem_of_getElem? (i := 93) rfl)))) rfl, by decide +kernel⟩
set_option maxHeartbeats 4000000 in
set_option maxRecDepth 100000 in
theorem ct_L_cutPower (l : Launch) (hl9 : l.stackTraces = false) (G : va_G) (qJ : Nat) (qH : Nat) (qh : Nat → Nat) (cH : ClassId) (qI : Nat) (qD : Nat) (qS : Nat) (qC : Nat) (cS : ClassId) (cC : ClassId) (s : Nat → Nat) (c : Nat → Nat) (ho : Nat → Nat) (hn : Nat → Nat) (hg : Nat → Nat) (hm : Nat → Nat) (hp : Nat → Nat) (wc : Nat) (wd : Nat) (tf : Nat) (z : Nat) (hz0 : z < 4294967296) : jL l yn_L_cutPower cd_L_cutPower 3 (some .int) hh_L_cutPower { frames := 8, cells := 1, slots := 6, locals := 133 } G (tJ cS cC cH) ((wJ qJ qH qh cH qI qD qS qC cS cC s c ho hn hg hm hp wc wd tf)) [.ref qJ, .int (nI (z))] (fun o w => (((jf_rng z 0 100)) = 0 ∧ o = some (.int (nI 0)) ∧ w = (wJ qJ qH qh cH qI qD qS qC cS cC s c ho hn hg hm hp z wd tf)) ∨ (¬ ((jf_rng z 0 100)) = 0 ∧ o = some (.int (nI ((jf_rng z 0 100)))) ∧ w = (wJ qJ qH qh cH qI qD qS qC cS cC s c ho hn hg hm hp wc wd tf))) := by
  refine jL_of (by decide) (Nat.le_of_ble_eq_true rfl) ?_
  intro pr en σ mi bel met cd ls A hA C htb hz hy hP hK hD hS hl
  have hx := C.1
  have hb := C.2.1
  have hown := C.2.2.2.1
  have hts := C.2.2.2.2.1
  have hl : lv_has ls 3 [(0, .ref qJ), (1, .int (nI (z)))] := hl
  refine lv_aload_n hx hb dd_L_cutPower_0 rfl (lv_at hl 0 rfl) ?_
  refine lv_iload_n hx hb dd_L_cutPower_1 rfl (lv_at hl 1 rfl) ?_
  refine jt_callV (wr := []) C hz (ct_J_cutPower l hl9 G qJ qH qh cH qI qD qS qC cS cC s c ho hn hg hm hp wc wd tf z hz0) kl_L_61 ⟨Nat.le_of_ble_eq_true rfl, Nat.le_of_ble_eq_true rfl⟩ ⟨Nat.le_of_ble_eq_true rfl, Nat.le_of_ble_eq_true rfl⟩ hP hD hS hA (hK) (va_recv hK hP (ci := 3) (q0 := 4) rfl rfl) hl.1 rfl rfl (Nat.le_of_ble_eq_true rfl) dd_L_cutPower_2 (fun E w1 H locs q9 ce hxx hP hD hS g1 g2 g3 => ?_) (fun o w1 H locs hxx hP hD hS => ?_)
  · obtain ⟨h0, rfl, rfl⟩ := hxx
    rcases jk_rng z 0 100 with h9 | h9
    · exact absurd h9 h0
    · have hE : jex ((jf_rng z 0 100)) = "java/lang/IllegalArgumentException" := by rw [h9]; rfl
      rw [hE] at g3
      refine vx_catch (own := cn_L) (name := "java/lang/IllegalArgumentException") (E := "java/lang/IllegalArgumentException") hown [] ⟨0, 5, 8, 13⟩ [] (htb.trans rfl) (fun _ h => absurd h List.not_mem_nil) rfl (by decide) (hts _ tc_L_1) (va_Nw.use rfl (hz.1 _ (by simp [jzl]))) g1 g2 g3 ?_
      refine lv_astore_n (lv' := [(2, .ref q9), (0, .ref qJ), (1, .int (nI (z)))]) hx hb dd_L_cutPower_8 rfl hl (by decide) rfl (fun ls hl => ?_)
      refine lv_iconst (v := nI 1) hx hb dd_L_cutPower_9 (by decide) ?_
      exact jt_reti C (Or.inr ⟨h0, by rw [h9], rfl⟩) hP hD hK hS ⟨Nat.le_of_ble_eq_true rfl, Nat.le_of_ble_eq_true rfl⟩ dd_L_cutPower_10
  · obtain ⟨h0, rfl, rfl⟩ := hxx
    refine lv_goto (tgt := 11) hx hb dd_L_cutPower_5 (by decide) ?_
    refine lv_iconst (v := nI 0) hx hb dd_L_cutPower_11 (by decide) ?_
    exact jt_reti C (Or.inl ⟨h0, rfl, rfl⟩) hP hD hK hS ⟨Nat.le_of_ble_eq_true rfl, Nat.le_of_ble_eq_true rfl⟩ dd_L_cutPower_12

abbrev hh_L_block : List (Nat × Nat × Nat × Nat) := [(0, 12, 15, 13)]
theorem kw_L_block : jc_L cn_L 129 yn_L_block cd_L_block 6 (some .int) hh_L_block 5 := ⟨jb_t (List.mem_append_right _ (List.mem_append_right _ (List.mem_append_left _ (List.mem_of_getElem? (i := 98) rfl)))) rfl, jb_t (List.mem_append_right _ (List.mem_append_right _ (List.mem_append_left _ (List.mem_of_getElem? (i := 99) rfl)))) rfl, tw_0, jb_t (List.mem_append_right _ (List.mem_append_right _ (List.mem_append_left _ (List.mem_of_getElem? (i := 100) rfl)))) rfl, by decide +kernel⟩
set_option maxHeartbeats 4000000 in
set_option maxRecDepth 100000 in
theorem ct_L_block (l : Launch) (hl9 : l.stackTraces = false) (G : va_G) (qJ : Nat) (qH : Nat) (qh : Nat → Nat) (cH : ClassId) (qI : Nat) (qD : Nat) (qS : Nat) (qC : Nat) (cS : ClassId) (cC : ClassId) (s : Nat → Nat) (c : Nat → Nat) (ho : Nat → Nat) (hn : Nat → Nat) (hg : Nat → Nat) (hm : Nat → Nat) (hp : Nat → Nat) (wc : Nat) (wd : Nat) (tf : Nat) (qw : Nat) (cw : ClassId) (fw : Nat → Int64) (b : Nat) (i : Nat) (q : Nat) (hb0 : b < 4294967296) (hi0 : i < 4294967296) (hq0 : q < 2) (hs : jf_ok s) (hc : jf_ok c) : jL l yn_L_block cd_L_block 6 (some .int) hh_L_block { frames := 8, cells := 2, slots := 12, locals := 136 } G (tJ cS cC cH ++ [(cw, .long)]) ((wJ qJ qH qh cH qI qD qS qC cS cC s c ho hn hg hm hp wc wd tf) ++ [(qw, .inl (cw, 1, .inr (.inl fw)))]) [.ref qJ, .int (nI (b)), .int (nI (i)), .int (nI (q)), .ref qw] (fun o w => (((jf_blockT b i)) = 0 ∧ o = some (.int (nI 0)) ∧ w = (wJ qJ qH qh cH qI qD qS qC cS cC s c ho hn hg hm hp wc wd tf) ++ [(qw, .inl (cw, 1, .inr (.inl (vp_updL fw (nI 0).toNatClampNeg (lN ((if q = 0 then jf_get s (b * 16 + i) else jf_get c (b * 16 + i))))))))]) ∨ (¬ ((jf_blockT b i)) = 0 ∧ o = some (.int (nI ((jf_blockT b i)))) ∧ w = (wJ qJ qH qh cH qI qD qS qC cS cC s c ho hn hg hm hp wc wd tf) ++ [(qw, .inl (cw, 1, .inr (.inl fw)))])) := by
  refine jL_of (by decide) (Nat.le_of_ble_eq_true rfl) ?_
  intro pr en σ mi bel met cd ls A hA C htb hz hy hP hK hD hS hl
  have hx := C.1
  have hb := C.2.1
  have hown := C.2.2.2.1
  have hts := C.2.2.2.2.1
  have hl : lv_has ls 6 [(0, .ref qJ), (1, .int (nI (b))), (2, .int (nI (i))), (3, .int (nI (q))), (4, .ref qw)] := hl
  refine lv_aload hx hb dd_L_block_0 (lv_at hl 4 rfl) ?_
  refine lv_iconst (v := nI 0) hx hb dd_L_block_2 (by decide) ?_
  refine lv_aload_n hx hb dd_L_block_3 rfl (lv_at hl 0 rfl) ?_
  refine lv_iload_n hx hb dd_L_block_4 rfl (lv_at hl 1 rfl) ?_
  refine lv_iload_n hx hb dd_L_block_5 rfl (lv_at hl 2 rfl) ?_
  refine lv_iload_n hx hb dd_L_block_6 rfl (lv_at hl 3 rfl) ?_
  refine jt_callV (wr := [(qw, .inl (cw, 1, .inr (.inl fw)))]) C hz (ct_J_block l hl9 G qJ qH qh cH qI qD qS qC cS cC s c ho hn hg hm hp wc wd tf b i q hb0 hi0 hq0 hs hc) kl_L_64 ⟨Nat.le_of_ble_eq_true rfl, Nat.le_of_ble_eq_true rfl⟩ ⟨Nat.le_of_ble_eq_true rfl, Nat.le_of_ble_eq_true rfl⟩ hP hD hS hA (hK.sub [0, 1, 2] rfl) (va_recv hK hP (ci := 3) (q0 := 4) rfl rfl) hl.1 rfl rfl (Nat.le_of_ble_eq_true rfl) dd_L_block_7 (fun E w1 H locs q9 ce hxx hP hD hS g1 g2 g3 => ?_) (fun o w1 H locs hxx hP hD hS => ?_)
  · obtain ⟨h0, rfl, rfl⟩ := hxx
    rcases jk_block b i with h9 | h9
    · exact absurd h9 h0
    · have hE : jex ((jf_blockT b i)) = "java/lang/IllegalArgumentException" := by rw [h9]; rfl
      rw [hE] at g3
      refine vx_catch (own := cn_L) (name := "java/lang/IllegalArgumentException") (E := "java/lang/IllegalArgumentException") hown [] ⟨0, 12, 15, 13⟩ [] (htb.trans rfl) (fun _ h => absurd h List.not_mem_nil) rfl (by decide) (hts _ tc_L_1) (va_Nw.use rfl (hz.1 _ (by simp [jzl]))) g1 g2 g3 ?_
      refine lv_astore (lv' := [(5, .ref q9), (0, .ref qJ), (1, .int (nI (b))), (2, .int (nI (i))), (3, .int (nI (q))), (4, .ref qw)]) hx hb dd_L_block_15 hl (by decide) rfl (fun ls hl => ?_)
      refine lv_iconst (v := nI 1) hx hb dd_L_block_17 (by decide) ?_
      exact jt_reti C (Or.inr ⟨h0, by rw [h9], rfl⟩) hP hD hK hS ⟨Nat.le_of_ble_eq_true rfl, Nat.le_of_ble_eq_true rfl⟩ dd_L_block_18
  · obtain ⟨h0, rfl, rfl⟩ := hxx
    refine jl_i2l hx hb (jk_blockv hs hc _ _) dd_L_block_10 ?_
    refine va_last hx hb hK hP hD hS 12 3 rfl rfl (vp_in_nI (by decide) (by decide)) dd_L_block_11 (fun H locs hP hD hS => ?_)
    refine lv_goto (tgt := 19) hx hb dd_L_block_12 (by decide) ?_
    refine lv_iconst (v := nI 0) hx hb dd_L_block_19 (by decide) ?_
    exact jt_reti C (Or.inl ⟨h0, rfl, rfl⟩) hP hD hK hS ⟨Nat.le_of_ble_eq_true rfl, Nat.le_of_ble_eq_true rfl⟩ dd_L_block_20

