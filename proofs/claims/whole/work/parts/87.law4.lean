set_option maxHeartbeats 4000000 in
set_option maxRecDepth 100000 in
theorem lw_case_cutPower {p : Program} {l : Launch} {e : Env} {σ : State} {m : MethodId} {below : List Frame} {meth : Method} {cd : Code} {bb L : Nat} {xs : Nat → Int32} {G : va_G} {A : Nat → Prop} {qJ qH : Nat} {qh : Nat → Nat} {cH : ClassId} {qI qD qS qC : Nat} {cS cC : ClassId} {qw : Nat} {cw : ClassId} {qM qK qZ qN qB qY qi qo qm qp : Nat} {c1 c2 c3 c4 c5 c6 c7 c8 c9 : ClassId} {Q : State → Prop} {ii nn : Nat} (hl9 : l.stackTraces = false) (C : jx p σ m #[Value.ref bb] meth cd cn_L code 8 ret) (hz : jz A σ σ.heap) (hy : jy σ) (hKO : va_K G jcl (tJ cS cC cH ++ [(cw, .long)]) σ) (hKM : va_K G jcl (tM c1 c2 c3 c4 c5 c6 c7 c8 c9) σ) (hX : va_X bb L xs σ σ.heap) (hbl : bb < σ.heap.size) (hbA : ¬ A bb) (hA : ∀ q : Nat, σ.heap.size ≤ q → A q) (hL : L ≤ 3072) (hii : ii + 6 ≤ L) (hnn : nn < 512) (nx : lw_nx p l e σ m below meth cd bb L xs G A qJ qH qh cH qI qD qS qC cS cC qw cw qM qK qZ qN qB qY qi qo qm qp c1 c2 c3 c4 c5 c6 c7 c8 c9 Q ii nn) {H : Heap} {locs : List Loc} {ls : Array Slot} {fw : Nat → Int64} {s c ho hn hg hm hp : Nat → Nat} {wc wd tf : Nat} {K Z N B Y I O M P : Nat → Nat} {ct wr ofs th : Nat} {pa ey fo : Option Nat} {la : Nat} (hR : je_R s c ho hn hg hm hp wc wd tf K Z N B Y I O M P ct wr ofs) (hw : wr ≤ 81 * nn) (hof : ofs ≤ nn) (hP : va_P G jcl ((wJ qJ qH qh cH qI qD qS qC cS cC s c ho hn hg hm hp wc wd tf ++ [(qw, .inl (cw, 1, .inr (.inl fw)))]) ++ wM qM qK qZ qN qB qY qi qo qm qp c1 c2 c3 c4 c5 c6 c7 c8 c9 K Z N B Y I O M P ct wr ofs th pa ey fo la) H) (hD : va_D A ((wJ qJ qH qh cH qI qD qS qC cS cC s c ho hn hg hm hp wc wd tf ++ [(qw, .inl (cw, 1, .inr (.inl fw)))]) ++ wM qM qK qZ qN qB qY qi qo qm qp c1 c2 c3 c4 c5 c6 c7 c8 c9 K Z N B Y I O M P ct wr ofs th pa ey fo la)) (hS : va_S A σ.heap H locs) (hl : lv_has ls 8 [(4, .int (nI ii)), (0, .ref bb), (1, .ref qJ), (2, .ref qM), (3, .ref qw)]) : W p l e room_1 σ m #[Value.ref bb] below meth cd H locs (23 + 7 * nn) (3071 + 42 * nn) Q (F0 m 871 ls []) := by
  have hx := C.1
  have hb := C.2.1
  have hown := C.2.2.2.1
  have hts := C.2.2.2.2.1
  have hKJ : va_K G jcl (tJ cS cC cH) σ := hKO.sub [0, 1, 2] rfl
  obtain ⟨z, hv_z, ev_z⟩ : ∃ z, z < 4294967296 ∧ jI (xs (ii + 1)) = z := ⟨_, jI_lt _, rfl⟩
  refine lv_aload_n hx hb dd_L_law_871 rfl (lv_at hl 2 rfl) ?_
  refine lv_aload_n hx hb dd_L_law_872 rfl (lv_at hl 1 rfl) ?_
  refine lv_iload hx hb dd_L_law_873 (lv_at hl 0 rfl) ?_
  refine lv_iconst (v := nI 1) hx hb dd_L_law_875 (by decide) ?_
  refine jl_iadd hx hb dd_L_law_876 ?_
  refine jl_sld hx hb hX hbl hbA hS (by omega) (by omega) dd_L_law_877 ?_
  refine jl_top (congrArg nI ev_z) ?_
  have E := je_cut hR z
  refine jL_callS (wr := [(qw, .inl (cw, 1, .inr (.inl fw)))] ++ wM qM qK qZ qN qB qY qi qo qm qp c1 c2 c3 c4 c5 c6 c7 c8 c9 K Z N B Y I O M P ct wr ofs th pa ey fo la) C hz hy (ct_L_cutPower l hl9 G qJ qH qh cH qI qD qS qC cS cC s c ho hn hg hm hp wc wd tf z hv_z) kw_L_cutPower ⟨Nat.le_of_ble_eq_true rfl, Nat.le_of_ble_eq_true rfl⟩ ⟨by show 23 + 7 * nn + 1 ≤ 601024; omega, by show 3071 + 42 * nn + 6 ≤ 7293034; omega⟩ hP hD hS hA hKJ hl.1 rfl rfl (Nat.le_of_ble_eq_true rfl) dd_L_law_878 (fun o9 w9 H locs hxx hP hD hS => ?_)
  rcases hxx with ⟨h0, rfl, rfl⟩ | ⟨h0, rfl, rfl⟩
  · skip
    have hP : va_P G jcl (((wJ qJ qH qh cH qI qD qS qC cS cC s c ho hn hg hm hp z wd tf) ++ [(qw, .inl (cw, 1, .inr (.inl fw)))]) ++ wM qM qK qZ qN qB qY qi qo qm qp c1 c2 c3 c4 c5 c6 c7 c8 c9 K Z N B Y I O M P ct wr ofs th pa ey fo la) H := hP
    have hD : va_D A (((wJ qJ qH qh cH qI qD qS qC cS cC s c ho hn hg hm hp z wd tf) ++ [(qw, .inl (cw, 1, .inr (.inl fw)))]) ++ wM qM qK qZ qN qB qY qi qo qm qp c1 c2 c3 c4 c5 c6 c7 c8 c9 K Z N B Y I O M P ct wr ofs th pa ey fo la) := hD
    have hm0 : (if 100 < z then 1 else 0) = 0 := by rw [← E.1, h0]
    refine lv_istore (lv' := [(5, .int (nI 0)), (4, .int (nI ii)), (0, .ref bb), (1, .ref qJ), (2, .ref qM), (3, .ref qw)]) hx hb dd_L_law_881 hl (by decide) rfl (fun ls hl => ?_)
    refine lv_aload_n hx hb dd_L_law_883 rfl (lv_at hl 4 rfl) ?_
    refine lv_aload_n hx hb dd_L_law_884 rfl (lv_at hl 2 rfl) ?_
    refine lv_iload hx hb dd_L_law_885 (lv_at hl 1 rfl) ?_
    refine lv_iconst (v := nI 1) hx hb dd_L_law_887 (by decide) ?_
    refine jl_iadd hx hb dd_L_law_888 ?_
    refine jl_sld hx hb hX hbl hbA hS (by omega) (by omega) dd_L_law_889 ?_
    refine jl_top (congrArg nI ev_z) ?_
    have hD := jw_permD List.perm_append_comm hD
    have hP := jw_permP List.perm_append_comm hP
    refine jm_callV C (ct_M_cutPower l G qM qK qZ qN qB qY qi qo qm qp c1 c2 c3 c4 c5 c6 c7 c8 c9 K Z N B Y I O M P ct wr ofs th pa ey fo la z hv_z) kl_L_124 ⟨Nat.le_of_ble_eq_true rfl, Nat.le_of_ble_eq_true rfl⟩ ⟨by show 23 + 7 * nn + 1 + 0 ≤ 601024; omega, by show 3071 + 42 * nn + 6 + 0 ≤ 7293034; omega⟩ hP hD hS hA hKM (va_recv hKM hP (ci := 4) (q0 := 0) rfl rfl) hl.1 rfl rfl (Nat.le_of_ble_eq_true rfl) dd_L_law_890 (fun H locs hP hD hS => ?_)
    refine lv_aload_n hx hb dd_L_law_893 rfl (lv_at hl 4 rfl) ?_
    refine jr_callV C (ct_M_thrown l G _ _ _ _ _ _ _ _ _ _ _ _ _ _ _ _ _ _ _ _ _ _ _ _ _ _ _ _ _ _ _ _ _ _ _ _) kl_L_78 ⟨Nat.le_of_ble_eq_true rfl, Nat.le_of_ble_eq_true rfl, rfl, rfl⟩ ⟨by show 23 + 7 * nn + 1 + 0 ≤ 601024; omega, by show 3071 + 42 * nn + 6 + 0 ≤ 7293034; omega⟩ (jw_left hP) hKM (va_recv hKM hP (ci := 4) (q0 := 0) rfl rfl) hl.1 rfl rfl (Nat.le_of_ble_eq_true rfl) dd_L_law_894 ?_
    refine lv_iload hx hb dd_L_law_897 (lv_at hl 0 rfl) ?_
    refine lv_icmp_eq (tgt := 904) hx hb dd_L_law_899 (by decide) (fun _ => ?_) (fun h9 => absurd (show nI (if 100 < z then 1 else 0) = nI 0 from by rw [hm0]) h9)
    refine lv_goto (tgt := 1039) hx hb dd_L_law_904 (by decide) ?_
    have hD := jw_permD List.perm_append_comm hD
    have hP := jw_permP List.perm_append_comm hP
    refine W.widen (by show 23 + 7 * nn + 1 + 0 ≤ 23 + 7 * (nn + 1); omega) (by show 3071 + 42 * nn + 6 + 0 ≤ 3071 + 42 * (nn + 1); omega) ?_
    exact nx _ _ _ _ _ _ _ _ _ _ _ _ _ _ _ _ _ _ _ _ _ _ _ _ _ _ _ _ _ _ _ (E.2.1 h0) (by omega) (by omega) hP hD hS (lv_sub hl [1, 2, 3, 4, 5] rfl)
  · skip
    have hP : va_P G jcl (((wJ qJ qH qh cH qI qD qS qC cS cC s c ho hn hg hm hp wc wd tf) ++ [(qw, .inl (cw, 1, .inr (.inl fw)))]) ++ wM qM qK qZ qN qB qY qi qo qm qp c1 c2 c3 c4 c5 c6 c7 c8 c9 K Z N B Y I O M P ct wr ofs th pa ey fo la) H := hP
    have hD : va_D A (((wJ qJ qH qh cH qI qD qS qC cS cC s c ho hn hg hm hp wc wd tf) ++ [(qw, .inl (cw, 1, .inr (.inl fw)))]) ++ wM qM qK qZ qN qB qY qi qo qm qp c1 c2 c3 c4 c5 c6 c7 c8 c9 K Z N B Y I O M P ct wr ofs th pa ey fo la) := hD
    have hm0 : ¬ (if 100 < z then 1 else 0) = 0 := by rw [← E.1]; exact h0
    refine lv_istore (lv' := [(5, .int (nI ((jf_rng z 0 100)))), (4, .int (nI ii)), (0, .ref bb), (1, .ref qJ), (2, .ref qM), (3, .ref qw)]) hx hb dd_L_law_881 hl (by decide) rfl (fun ls hl => ?_)
    refine lv_aload_n hx hb dd_L_law_883 rfl (lv_at hl 4 rfl) ?_
    refine lv_aload_n hx hb dd_L_law_884 rfl (lv_at hl 2 rfl) ?_
    refine lv_iload hx hb dd_L_law_885 (lv_at hl 1 rfl) ?_
    refine lv_iconst (v := nI 1) hx hb dd_L_law_887 (by decide) ?_
    refine jl_iadd hx hb dd_L_law_888 ?_
    refine jl_sld hx hb hX hbl hbA hS (by omega) (by omega) dd_L_law_889 ?_
    refine jl_top (congrArg nI ev_z) ?_
    have hD := jw_permD List.perm_append_comm hD
    have hP := jw_permP List.perm_append_comm hP
    refine jm_callV C (ct_M_cutPower l G qM qK qZ qN qB qY qi qo qm qp c1 c2 c3 c4 c5 c6 c7 c8 c9 K Z N B Y I O M P ct wr ofs th pa ey fo la z hv_z) kl_L_124 ⟨Nat.le_of_ble_eq_true rfl, Nat.le_of_ble_eq_true rfl⟩ ⟨by show 23 + 7 * nn + 1 + 0 ≤ 601024; omega, by show 3071 + 42 * nn + 6 + 0 ≤ 7293034; omega⟩ hP hD hS hA hKM (va_recv hKM hP (ci := 4) (q0 := 0) rfl rfl) hl.1 rfl rfl (Nat.le_of_ble_eq_true rfl) dd_L_law_890 (fun H locs hP hD hS => ?_)
    rw [E.2.2 h0] at hP hD
    refine lv_aload_n hx hb dd_L_law_893 rfl (lv_at hl 4 rfl) ?_
    refine jr_callV C (ct_M_thrown l G _ _ _ _ _ _ _ _ _ _ _ _ _ _ _ _ _ _ _ _ _ _ _ _ _ _ _ _ _ _ _ _ _ _ _ _) kl_L_78 ⟨Nat.le_of_ble_eq_true rfl, Nat.le_of_ble_eq_true rfl, rfl, rfl⟩ ⟨by show 23 + 7 * nn + 1 + 0 ≤ 601024; omega, by show 3071 + 42 * nn + 6 + 0 ≤ 7293034; omega⟩ (jw_left hP) hKM (va_recv hKM hP (ci := 4) (q0 := 0) rfl rfl) hl.1 rfl rfl (Nat.le_of_ble_eq_true rfl) dd_L_law_894 ?_
    refine lv_iload hx hb dd_L_law_897 (lv_at hl 0 rfl) ?_
    refine lv_icmp_eq (tgt := 904) hx hb dd_L_law_899 (by decide) (fun _ => ?_) (fun h9 => absurd (show nI (if 100 < z then 1 else 0) = nI ((jf_rng z 0 100)) from by rw [← E.1]) h9)
    refine lv_goto (tgt := 1039) hx hb dd_L_law_904 (by decide) ?_
    have hD := jw_permD List.perm_append_comm hD
    have hP := jw_permP List.perm_append_comm hP
    refine W.widen (by show 23 + 7 * nn + 1 + 0 ≤ 23 + 7 * (nn + 1); omega) (by show 3071 + 42 * nn + 6 + 0 ≤ 3071 + 42 * (nn + 1); omega) ?_
    exact nx _ _ _ _ _ _ _ _ _ _ _ _ _ _ _ _ _ _ _ _ _ _ _ _ _ _ _ _ _ _ _ hR (by omega) (by omega) hP hD hS (lv_sub hl [1, 2, 3, 4, 5] rfl)

set_option maxHeartbeats 4000000 in
set_option maxRecDepth 100000 in
theorem lw_case_crash {p : Program} {l : Launch} {e : Env} {σ : State} {m : MethodId} {below : List Frame} {meth : Method} {cd : Code} {bb L : Nat} {xs : Nat → Int32} {G : va_G} {A : Nat → Prop} {qJ qH : Nat} {qh : Nat → Nat} {cH : ClassId} {qI qD qS qC : Nat} {cS cC : ClassId} {qw : Nat} {cw : ClassId} {qM qK qZ qN qB qY qi qo qm qp : Nat} {c1 c2 c3 c4 c5 c6 c7 c8 c9 : ClassId} {Q : State → Prop} {ii nn : Nat} (hl9 : l.stackTraces = false) (C : jx p σ m #[Value.ref bb] meth cd cn_L code 8 ret) (hz : jz A σ σ.heap) (hy : jy σ) (hKO : va_K G jcl (tJ cS cC cH ++ [(cw, .long)]) σ) (hKM : va_K G jcl (tM c1 c2 c3 c4 c5 c6 c7 c8 c9) σ) (hX : va_X bb L xs σ σ.heap) (hbl : bb < σ.heap.size) (hbA : ¬ A bb) (hA : ∀ q : Nat, σ.heap.size ≤ q → A q) (hL : L ≤ 3072) (hii : ii + 6 ≤ L) (hnn : nn < 512) (nx : lw_nx p l e σ m below meth cd bb L xs G A qJ qH qh cH qI qD qS qC cS cC qw cw qM qK qZ qN qB qY qi qo qm qp c1 c2 c3 c4 c5 c6 c7 c8 c9 Q ii nn) {H : Heap} {locs : List Loc} {ls : Array Slot} {fw : Nat → Int64} {s c ho hn hg hm hp : Nat → Nat} {wc wd tf : Nat} {K Z N B Y I O M P : Nat → Nat} {ct wr ofs th : Nat} {pa ey fo : Option Nat} {la : Nat} (hR : je_R s c ho hn hg hm hp wc wd tf K Z N B Y I O M P ct wr ofs) (hw : wr ≤ 81 * nn) (hof : ofs ≤ nn) (hP : va_P G jcl ((wJ qJ qH qh cH qI qD qS qC cS cC s c ho hn hg hm hp wc wd tf ++ [(qw, .inl (cw, 1, .inr (.inl fw)))]) ++ wM qM qK qZ qN qB qY qi qo qm qp c1 c2 c3 c4 c5 c6 c7 c8 c9 K Z N B Y I O M P ct wr ofs th pa ey fo la) H) (hD : va_D A ((wJ qJ qH qh cH qI qD qS qC cS cC s c ho hn hg hm hp wc wd tf ++ [(qw, .inl (cw, 1, .inr (.inl fw)))]) ++ wM qM qK qZ qN qB qY qi qo qm qp c1 c2 c3 c4 c5 c6 c7 c8 c9 K Z N B Y I O M P ct wr ofs th pa ey fo la)) (hS : va_S A σ.heap H locs) (hl : lv_has ls 8 [(4, .int (nI ii)), (0, .ref bb), (1, .ref qJ), (2, .ref qM), (3, .ref qw)]) : W p l e room_1 σ m #[Value.ref bb] below meth cd H locs (23 + 7 * nn) (3071 + 42 * nn) Q (F0 m 907 ls []) := by
  have hx := C.1
  have hb := C.2.1
  have hown := C.2.2.2.1
  have hts := C.2.2.2.2.1
  have hKJ : va_K G jcl (tJ cS cC cH) σ := hKO.sub [0, 1, 2] rfl
  refine lv_aload_n hx hb dd_L_law_907 rfl (lv_at hl 2 rfl) ?_
  refine jm_callV (wr := [(qw, .inl (cw, 1, .inr (.inl fw)))] ++ wM qM qK qZ qN qB qY qi qo qm qp c1 c2 c3 c4 c5 c6 c7 c8 c9 K Z N B Y I O M P ct wr ofs th pa ey fo la) C (ct_J_crash l G qJ qH qh cH qI qD qS qC cS cC s c ho hn hg hm hp wc wd tf (by have := hR.et; omega) hR.s0.ok hR.s1.ok) kl_L_125 ⟨Nat.le_of_ble_eq_true rfl, Nat.le_of_ble_eq_true rfl⟩ ⟨by show 23 + 7 * nn + 0 ≤ 601024; omega, by show 3071 + 42 * nn + 0 ≤ 7293034; omega⟩ hP hD hS hA hKJ (va_recv hKJ hP (ci := 3) (q0 := 4) rfl rfl) hl.1 rfl rfl (Nat.le_of_ble_eq_true rfl) dd_L_law_908 (fun H locs hP hD hS => ?_)
  have hP : va_P G jcl ((wJ qJ qH qh cH qI qD qS qC cS cC (jf_cpy c s) c (jf_lpL 6 0 ho) hn hg hm hp wc wd (tf + 1) ++ [(qw, .inl (cw, 1, .inr (.inl fw)))]) ++ wM qM qK qZ qN qB qY qi qo qm qp c1 c2 c3 c4 c5 c6 c7 c8 c9 K Z N B Y I O M P ct wr ofs th pa ey fo la) H := hP
  have hD : va_D A ((wJ qJ qH qh cH qI qD qS qC cS cC (jf_cpy c s) c (jf_lpL 6 0 ho) hn hg hm hp wc wd (tf + 1) ++ [(qw, .inl (cw, 1, .inr (.inl fw)))]) ++ wM qM qK qZ qN qB qY qi qo qm qp c1 c2 c3 c4 c5 c6 c7 c8 c9 K Z N B Y I O M P ct wr ofs th pa ey fo la) := hD
  refine lv_aload_n hx hb dd_L_law_911 rfl (lv_at hl 3 rfl) ?_
  have hD := jw_permD List.perm_append_comm hD
  have hP := jw_permP List.perm_append_comm hP
  refine jm_callV C (ct_M_crash l G qM qK qZ qN qB qY qi qo qm qp c1 c2 c3 c4 c5 c6 c7 c8 c9 K Z N B Y I O M P ct wr ofs th pa ey fo la ) kl_L_128 ⟨Nat.le_of_ble_eq_true rfl, Nat.le_of_ble_eq_true rfl⟩ ⟨by show 23 + 7 * nn + 0 + 0 ≤ 601024; omega, by show 3071 + 42 * nn + 0 + 0 ≤ 7293034; omega⟩ hP hD hS hA hKM (va_recv hKM hP (ci := 4) (q0 := 0) rfl rfl) hl.1 rfl rfl (Nat.le_of_ble_eq_true rfl) dd_L_law_912 (fun H locs hP hD hS => ?_)
  refine lv_goto (tgt := 1039) hx hb dd_L_law_915 (by decide) ?_
  have hD := jw_permD List.perm_append_comm hD
  have hP := jw_permP List.perm_append_comm hP
  refine W.widen (by show 23 + 7 * nn + 0 + 0 ≤ 23 + 7 * (nn + 1); omega) (by show 3071 + 42 * nn + 0 + 0 ≤ 3071 + 42 * (nn + 1); omega) ?_
  exact nx _ _ _ _ _ _ _ _ _ _ _ _ _ _ _ _ _ _ _ _ _ _ _ _ _ _ _ _ _ _ _ hR.crash (by omega) (by omega) hP hD hS (lv_sub hl [0, 1, 2, 3, 4] rfl)

set_option maxHeartbeats 4000000 in
set_option maxRecDepth 100000 in
theorem lw_case_block {p : Program} {l : Launch} {e : Env} {σ : State} {m : MethodId} {below : List Frame} {meth : Method} {cd : Code} {bb L : Nat} {xs : Nat → Int32} {G : va_G} {A : Nat → Prop} {qJ qH : Nat} {qh : Nat → Nat} {cH : ClassId} {qI qD qS qC : Nat} {cS cC : ClassId} {qw : Nat} {cw : ClassId} {qM qK qZ qN qB qY qi qo qm qp : Nat} {c1 c2 c3 c4 c5 c6 c7 c8 c9 : ClassId} {Q : State → Prop} {ii nn : Nat} (hl9 : l.stackTraces = false) (C : jx p σ m #[Value.ref bb] meth cd cn_L code 8 ret) (hz : jz A σ σ.heap) (hy : jy σ) (hKO : va_K G jcl (tJ cS cC cH ++ [(cw, .long)]) σ) (hKM : va_K G jcl (tM c1 c2 c3 c4 c5 c6 c7 c8 c9) σ) (hX : va_X bb L xs σ σ.heap) (hbl : bb < σ.heap.size) (hbA : ¬ A bb) (hA : ∀ q : Nat, σ.heap.size ≤ q → A q) (hL : L ≤ 3072) (hii : ii + 6 ≤ L) (hnn : nn < 512) (nx : lw_nx p l e σ m below meth cd bb L xs G A qJ qH qh cH qI qD qS qC cS cC qw cw qM qK qZ qN qB qY qi qo qm qp c1 c2 c3 c4 c5 c6 c7 c8 c9 Q ii nn) {H : Heap} {locs : List Loc} {ls : Array Slot} {fw : Nat → Int64} {s c ho hn hg hm hp : Nat → Nat} {wc wd tf : Nat} {K Z N B Y I O M P : Nat → Nat} {ct wr ofs th : Nat} {pa ey fo : Option Nat} {la : Nat} (hR : je_R s c ho hn hg hm hp wc wd tf K Z N B Y I O M P ct wr ofs) (hw : wr ≤ 81 * nn) (hof : ofs ≤ nn) (hP : va_P G jcl ((wJ qJ qH qh cH qI qD qS qC cS cC s c ho hn hg hm hp wc wd tf ++ [(qw, .inl (cw, 1, .inr (.inl fw)))]) ++ wM qM qK qZ qN qB qY qi qo qm qp c1 c2 c3 c4 c5 c6 c7 c8 c9 K Z N B Y I O M P ct wr ofs th pa ey fo la) H) (hD : va_D A ((wJ qJ qH qh cH qI qD qS qC cS cC s c ho hn hg hm hp wc wd tf ++ [(qw, .inl (cw, 1, .inr (.inl fw)))]) ++ wM qM qK qZ qN qB qY qi qo qm qp c1 c2 c3 c4 c5 c6 c7 c8 c9 K Z N B Y I O M P ct wr ofs th pa ey fo la)) (hS : va_S A σ.heap H locs) (hl : lv_has ls 8 [(4, .int (nI ii)), (0, .ref bb), (1, .ref qJ), (2, .ref qM), (3, .ref qw)]) : W p l e room_1 σ m #[Value.ref bb] below meth cd H locs (23 + 7 * nn) (3071 + 42 * nn) Q (F0 m 918 ls []) := by
  have hx := C.1
  have hb := C.2.1
  have hown := C.2.2.2.1
  have hts := C.2.2.2.2.1
  have hKJ : va_K G jcl (tJ cS cC cH) σ := hKO.sub [0, 1, 2] rfl
  obtain ⟨b, hv_b, ev_b⟩ : ∃ b, b < 4294967296 ∧ jI (xs (ii + 1)) = b := ⟨_, jI_lt _, rfl⟩
  obtain ⟨i, hv_i, ev_i⟩ : ∃ i, i < 4294967296 ∧ jI (xs (ii + 2)) = i := ⟨_, jI_lt _, rfl⟩
  obtain ⟨q, hv_q, ev_q⟩ : ∃ q, q < 2 ∧ jbo (jI (xs (ii + 3))) = q := ⟨_, jbo_lt _, rfl⟩
  refine lv_aload_n hx hb dd_L_law_918 rfl (lv_at hl 2 rfl) ?_
  refine lv_aload_n hx hb dd_L_law_919 rfl (lv_at hl 1 rfl) ?_
  refine lv_iload hx hb dd_L_law_920 (lv_at hl 0 rfl) ?_
  refine lv_iconst (v := nI 1) hx hb dd_L_law_922 (by decide) ?_
  refine jl_iadd hx hb dd_L_law_923 ?_
  refine jl_sld hx hb hX hbl hbA hS (by omega) (by omega) dd_L_law_924 ?_
  refine jl_top (congrArg nI ev_b) ?_
  refine lv_aload_n hx hb dd_L_law_925 rfl (lv_at hl 1 rfl) ?_
  refine lv_iload hx hb dd_L_law_926 (lv_at hl 0 rfl) ?_
  refine lv_iconst (v := nI 2) hx hb dd_L_law_928 (by decide) ?_
  refine jl_iadd hx hb dd_L_law_929 ?_
  refine jl_sld hx hb hX hbl hbA hS (by omega) (by omega) dd_L_law_930 ?_
  refine jl_top (congrArg nI ev_i) ?_
  refine lv_aload_n hx hb dd_L_law_931 rfl (lv_at hl 1 rfl) ?_
  refine lv_iload hx hb dd_L_law_932 (lv_at hl 0 rfl) ?_
  refine lv_iconst (v := nI 3) hx hb dd_L_law_934 (by decide) ?_
  refine jl_iadd hx hb dd_L_law_935 ?_
  refine jl_sld hx hb hX hbl hbA hS (by omega) (by omega) dd_L_law_936 ?_
  refine jl_bool hx hb (jI_lt _) dd_L_law_937 dd_L_law_940 dd_L_law_941 dd_L_law_944 ?_
  refine jl_top (congrArg nI ev_q) ?_
  refine lv_aload_n hx hb dd_L_law_945 rfl (lv_at hl 4 rfl) ?_
  have E := je_block hR b i q
  refine jL_callS (wr := wM qM qK qZ qN qB qY qi qo qm qp c1 c2 c3 c4 c5 c6 c7 c8 c9 K Z N B Y I O M P ct wr ofs th pa ey fo la) C hz hy (ct_L_block l hl9 G qJ qH qh cH qI qD qS qC cS cC s c ho hn hg hm hp wc wd tf qw cw fw b i q hv_b hv_i hv_q hR.s0.ok hR.s1.ok) kw_L_block ⟨Nat.le_of_ble_eq_true rfl, Nat.le_of_ble_eq_true rfl⟩ ⟨by show 23 + 7 * nn + 2 ≤ 601024; omega, by show 3071 + 42 * nn + 12 ≤ 7293034; omega⟩ hP hD hS hA hKO hl.1 rfl rfl (Nat.le_of_ble_eq_true rfl) dd_L_law_946 (fun o9 w9 H locs hxx hP hD hS => ?_)
  rcases hxx with ⟨h0, rfl, rfl⟩ | ⟨h0, rfl, rfl⟩
  · skip
    have hP : va_P G jcl (((wJ qJ qH qh cH qI qD qS qC cS cC s c ho hn hg hm hp wc wd tf) ++ [(qw, .inl (cw, 1, .inr (.inl (vp_updL fw (nI 0).toNatClampNeg (lN ((if q = 0 then jf_get s (b * 16 + i) else jf_get c (b * 16 + i))))))))]) ++ wM qM qK qZ qN qB qY qi qo qm qp c1 c2 c3 c4 c5 c6 c7 c8 c9 K Z N B Y I O M P ct wr ofs th pa ey fo la) H := hP
    have hD : va_D A (((wJ qJ qH qh cH qI qD qS qC cS cC s c ho hn hg hm hp wc wd tf) ++ [(qw, .inl (cw, 1, .inr (.inl (vp_updL fw (nI 0).toNatClampNeg (lN ((if q = 0 then jf_get s (b * 16 + i) else jf_get c (b * 16 + i))))))))]) ++ wM qM qK qZ qN qB qY qi qo qm qp c1 c2 c3 c4 c5 c6 c7 c8 c9 K Z N B Y I O M P ct wr ofs th pa ey fo la) := hD
    have hm0 : (if 39 < b then 1 else if 15 < i then 1 else 0) = 0 := by rw [← E.1, h0]
    refine lv_istore (lv' := [(5, .int (nI 0)), (4, .int (nI ii)), (0, .ref bb), (1, .ref qJ), (2, .ref qM), (3, .ref qw)]) hx hb dd_L_law_949 hl (by decide) rfl (fun ls hl => ?_)
    refine lv_aload_n hx hb dd_L_law_951 rfl (lv_at hl 4 rfl) ?_
    refine lv_aload_n hx hb dd_L_law_952 rfl (lv_at hl 2 rfl) ?_
    refine lv_iload hx hb dd_L_law_953 (lv_at hl 1 rfl) ?_
    refine lv_iconst (v := nI 1) hx hb dd_L_law_955 (by decide) ?_
    refine jl_iadd hx hb dd_L_law_956 ?_
    refine jl_sld hx hb hX hbl hbA hS (by omega) (by omega) dd_L_law_957 ?_
    refine jl_top (congrArg nI ev_b) ?_
    refine lv_aload_n hx hb dd_L_law_958 rfl (lv_at hl 2 rfl) ?_
    refine lv_iload hx hb dd_L_law_959 (lv_at hl 1 rfl) ?_
    refine lv_iconst (v := nI 2) hx hb dd_L_law_961 (by decide) ?_
    refine jl_iadd hx hb dd_L_law_962 ?_
    refine jl_sld hx hb hX hbl hbA hS (by omega) (by omega) dd_L_law_963 ?_
    refine jl_top (congrArg nI ev_i) ?_
    refine lv_aload_n hx hb dd_L_law_964 rfl (lv_at hl 2 rfl) ?_
    refine lv_iload hx hb dd_L_law_965 (lv_at hl 1 rfl) ?_
    refine lv_iconst (v := nI 3) hx hb dd_L_law_967 (by decide) ?_
    refine jl_iadd hx hb dd_L_law_968 ?_
    refine jl_sld hx hb hX hbl hbA hS (by omega) (by omega) dd_L_law_969 ?_
    refine jl_bool hx hb (jI_lt _) dd_L_law_970 dd_L_law_973 dd_L_law_974 dd_L_law_977 ?_
    refine jl_top (congrArg nI ev_q) ?_
    have hD := jw_permD List.perm_append_comm hD
    have hP := jw_permP List.perm_append_comm hP
    refine jm_callV C (ct_M_block l G qM qK qZ qN qB qY qi qo qm qp c1 c2 c3 c4 c5 c6 c7 c8 c9 K Z N B Y I O M P ct wr ofs th pa ey fo la b i q 40 hv_b hv_i hv_q (by decide) hR.s0.k3 hR.s0.z6 hR.s0.n2 hR.s0.b4 hR.s0.y2) kl_L_132 ⟨Nat.le_of_ble_eq_true rfl, Nat.le_of_ble_eq_true rfl⟩ ⟨by show 23 + 7 * nn + 2 + 0 ≤ 601024; omega, by show 3071 + 42 * nn + 12 + 0 ≤ 7293034; omega⟩ hP hD hS hA hKM (va_recv hKM hP (ci := 4) (q0 := 0) rfl rfl) hl.1 rfl rfl (Nat.le_of_ble_eq_true rfl) dd_L_law_978 (fun H locs hP hD hS => ?_)
    refine jl_top (congrArg nI (Eq.symm (show ((if q = 0 then jf_get s (b * 16 + i) else jf_get c (b * 16 + i))) = _ from (E.2 h0)))) ?_
    refine lv_istore (lv' := [(6, .int (nI ((if q = 0 then jf_get s (b * 16 + i) else jf_get c (b * 16 + i))))), (5, .int (nI 0)), (4, .int (nI ii)), (0, .ref bb), (1, .ref qJ), (2, .ref qM), (3, .ref qw)]) hx hb dd_L_law_981 hl (by decide) rfl (fun ls hl => ?_)
    refine lv_aload_n hx hb dd_L_law_983 rfl (lv_at hl 5 rfl) ?_
    refine jr_callV C (ct_M_thrown l G _ _ _ _ _ _ _ _ _ _ _ _ _ _ _ _ _ _ _ _ _ _ _ _ _ _ _ _ _ _ _ _ _ _ _ _) kl_L_78 ⟨Nat.le_of_ble_eq_true rfl, Nat.le_of_ble_eq_true rfl, rfl, rfl⟩ ⟨by show 23 + 7 * nn + 2 + 0 ≤ 601024; omega, by show 3071 + 42 * nn + 12 + 0 ≤ 7293034; omega⟩ (jw_left hP) hKM (va_recv hKM hP (ci := 4) (q0 := 0) rfl rfl) hl.1 rfl rfl (Nat.le_of_ble_eq_true rfl) dd_L_law_984 ?_
    refine lv_iload hx hb dd_L_law_987 (lv_at hl 1 rfl) ?_
    refine lv_icmp_eq (tgt := 994) hx hb dd_L_law_989 (by decide) (fun _ => ?_) (fun h9 => absurd (show nI (if 39 < b then 1 else if 15 < i then 1 else 0) = nI 0 from by rw [hm0]) h9)
    refine lv_iload hx hb dd_L_law_994 (lv_at hl 1 rfl) ?_
    refine lv_if_ne (tgt := 1011) hx hb dd_L_law_996 (by decide) (fun h9 => absurd nI_0 h9) (fun _ => ?_)
    refine lv_aload_n hx hb dd_L_law_999 rfl (lv_at hl 6 rfl) ?_
    refine lv_iconst (v := nI 0) hx hb dd_L_law_1000 (by decide) ?_
    refine va_lald hx hb hKO hP 22 3 rfl rfl (vp_in_nI (by decide) (by decide)) dd_L_law_1001 ?_
    refine jl_topL pk_uLs ?_
    refine lv_iload hx hb dd_L_law_1002 (lv_at hl 0 rfl) ?_
    refine jl_i2l hx hb (jk_blockv hR.s0.ok hR.s1.ok _ _) dd_L_law_1004 ?_
    refine W.lcmp hx hb dd_L_law_1005 ?_
    refine jl_top (jx_cmp0 _) ?_
    refine lv_if_eq (tgt := 1011) hx hb dd_L_law_1006 (by decide) (fun _ => ?_) (fun h9 => absurd nI_0 h9)
    refine lv_goto (tgt := 1039) hx hb dd_L_law_1011 (by decide) ?_
    have hD := jw_permD List.perm_append_comm hD
    have hP := jw_permP List.perm_append_comm hP
    refine W.widen (by show 23 + 7 * nn + 2 + 0 ≤ 23 + 7 * (nn + 1); omega) (by show 3071 + 42 * nn + 12 + 0 ≤ 3071 + 42 * (nn + 1); omega) ?_
    exact nx _ _ _ _ _ _ _ _ _ _ _ _ _ _ _ _ _ _ _ _ _ _ _ _ _ _ _ _ _ _ _ hR (by omega) (by omega) hP hD hS (lv_sub hl [2, 3, 4, 5, 6] rfl)
  · skip
    have hP : va_P G jcl (((wJ qJ qH qh cH qI qD qS qC cS cC s c ho hn hg hm hp wc wd tf) ++ [(qw, .inl (cw, 1, .inr (.inl fw)))]) ++ wM qM qK qZ qN qB qY qi qo qm qp c1 c2 c3 c4 c5 c6 c7 c8 c9 K Z N B Y I O M P ct wr ofs th pa ey fo la) H := hP
    have hD : va_D A (((wJ qJ qH qh cH qI qD qS qC cS cC s c ho hn hg hm hp wc wd tf) ++ [(qw, .inl (cw, 1, .inr (.inl fw)))]) ++ wM qM qK qZ qN qB qY qi qo qm qp c1 c2 c3 c4 c5 c6 c7 c8 c9 K Z N B Y I O M P ct wr ofs th pa ey fo la) := hD
    have hm0 : ¬ (if 39 < b then 1 else if 15 < i then 1 else 0) = 0 := by rw [← E.1]; exact h0
    refine lv_istore (lv' := [(5, .int (nI ((jf_blockT b i)))), (4, .int (nI ii)), (0, .ref bb), (1, .ref qJ), (2, .ref qM), (3, .ref qw)]) hx hb dd_L_law_949 hl (by decide) rfl (fun ls hl => ?_)
    refine lv_aload_n hx hb dd_L_law_951 rfl (lv_at hl 4 rfl) ?_
    refine lv_aload_n hx hb dd_L_law_952 rfl (lv_at hl 2 rfl) ?_
    refine lv_iload hx hb dd_L_law_953 (lv_at hl 1 rfl) ?_
    refine lv_iconst (v := nI 1) hx hb dd_L_law_955 (by decide) ?_
    refine jl_iadd hx hb dd_L_law_956 ?_
    refine jl_sld hx hb hX hbl hbA hS (by omega) (by omega) dd_L_law_957 ?_
    refine jl_top (congrArg nI ev_b) ?_
    refine lv_aload_n hx hb dd_L_law_958 rfl (lv_at hl 2 rfl) ?_
    refine lv_iload hx hb dd_L_law_959 (lv_at hl 1 rfl) ?_
    refine lv_iconst (v := nI 2) hx hb dd_L_law_961 (by decide) ?_
    refine jl_iadd hx hb dd_L_law_962 ?_
    refine jl_sld hx hb hX hbl hbA hS (by omega) (by omega) dd_L_law_963 ?_
    refine jl_top (congrArg nI ev_i) ?_
    refine lv_aload_n hx hb dd_L_law_964 rfl (lv_at hl 2 rfl) ?_
    refine lv_iload hx hb dd_L_law_965 (lv_at hl 1 rfl) ?_
    refine lv_iconst (v := nI 3) hx hb dd_L_law_967 (by decide) ?_
    refine jl_iadd hx hb dd_L_law_968 ?_
    refine jl_sld hx hb hX hbl hbA hS (by omega) (by omega) dd_L_law_969 ?_
    refine jl_bool hx hb (jI_lt _) dd_L_law_970 dd_L_law_973 dd_L_law_974 dd_L_law_977 ?_
    refine jl_top (congrArg nI ev_q) ?_
    have hD := jw_permD List.perm_append_comm hD
    have hP := jw_permP List.perm_append_comm hP
    refine jm_callV C (ct_M_block l G qM qK qZ qN qB qY qi qo qm qp c1 c2 c3 c4 c5 c6 c7 c8 c9 K Z N B Y I O M P ct wr ofs th pa ey fo la b i q 40 hv_b hv_i hv_q (by decide) hR.s0.k3 hR.s0.z6 hR.s0.n2 hR.s0.b4 hR.s0.y2) kl_L_132 ⟨Nat.le_of_ble_eq_true rfl, Nat.le_of_ble_eq_true rfl⟩ ⟨by show 23 + 7 * nn + 2 + 0 ≤ 601024; omega, by show 3071 + 42 * nn + 12 + 0 ≤ 7293034; omega⟩ hP hD hS hA hKM (va_recv hKM hP (ci := 4) (q0 := 0) rfl rfl) hl.1 rfl rfl (Nat.le_of_ble_eq_true rfl) dd_L_law_978 (fun H locs hP hD hS => ?_)
    refine lv_istore (lv' := (6, _) :: [(5, .int (nI ((jf_blockT b i)))), (4, .int (nI ii)), (0, .ref bb), (1, .ref qJ), (2, .ref qM), (3, .ref qw)]) hx hb dd_L_law_981 hl (by decide) rfl (fun ls hl => ?_)
    refine lv_aload_n hx hb dd_L_law_983 rfl (lv_at hl 5 rfl) ?_
    refine jr_callV C (ct_M_thrown l G _ _ _ _ _ _ _ _ _ _ _ _ _ _ _ _ _ _ _ _ _ _ _ _ _ _ _ _ _ _ _ _ _ _ _ _) kl_L_78 ⟨Nat.le_of_ble_eq_true rfl, Nat.le_of_ble_eq_true rfl, rfl, rfl⟩ ⟨by show 23 + 7 * nn + 2 + 0 ≤ 601024; omega, by show 3071 + 42 * nn + 12 + 0 ≤ 7293034; omega⟩ (jw_left hP) hKM (va_recv hKM hP (ci := 4) (q0 := 0) rfl rfl) hl.1 rfl rfl (Nat.le_of_ble_eq_true rfl) dd_L_law_984 ?_
    refine lv_iload hx hb dd_L_law_987 (lv_at hl 1 rfl) ?_
    refine lv_icmp_eq (tgt := 994) hx hb dd_L_law_989 (by decide) (fun _ => ?_) (fun h9 => absurd (show nI (if 39 < b then 1 else if 15 < i then 1 else 0) = nI ((jf_blockT b i)) from by rw [← E.1]) h9)
    refine lv_iload hx hb dd_L_law_994 (lv_at hl 1 rfl) ?_
    refine lv_if_ne (tgt := 1011) hx hb dd_L_law_996 (by decide) (fun _ => ?_) (fun h9 => absurd h9 (jx_ne0 (h0) (by have := jk_block b i; omega)))
    refine lv_goto (tgt := 1039) hx hb dd_L_law_1011 (by decide) ?_
    have hD := jw_permD List.perm_append_comm hD
    have hP := jw_permP List.perm_append_comm hP
    refine W.widen (by show 23 + 7 * nn + 2 + 0 ≤ 23 + 7 * (nn + 1); omega) (by show 3071 + 42 * nn + 12 + 0 ≤ 3071 + 42 * (nn + 1); omega) ?_
    exact nx _ _ _ _ _ _ _ _ _ _ _ _ _ _ _ _ _ _ _ _ _ _ _ _ _ _ _ _ _ _ _ hR (by omega) (by omega) hP hD hS (lv_sub hl [2, 3, 4, 5, 6] rfl)

set_option maxHeartbeats 4000000 in
set_option maxRecDepth 100000 in
theorem lw_case_count {p : Program} {l : Launch} {e : Env} {σ : State} {m : MethodId} {below : List Frame} {meth : Method} {cd : Code} {bb L : Nat} {xs : Nat → Int32} {G : va_G} {A : Nat → Prop} {qJ qH : Nat} {qh : Nat → Nat} {cH : ClassId} {qI qD qS qC : Nat} {cS cC : ClassId} {qw : Nat} {cw : ClassId} {qM qK qZ qN qB qY qi qo qm qp : Nat} {c1 c2 c3 c4 c5 c6 c7 c8 c9 : ClassId} {Q : State → Prop} {ii nn : Nat} (hl9 : l.stackTraces = false) (C : jx p σ m #[Value.ref bb] meth cd cn_L code 8 ret) (hz : jz A σ σ.heap) (hy : jy σ) (hKO : va_K G jcl (tJ cS cC cH ++ [(cw, .long)]) σ) (hKM : va_K G jcl (tM c1 c2 c3 c4 c5 c6 c7 c8 c9) σ) (hX : va_X bb L xs σ σ.heap) (hbl : bb < σ.heap.size) (hbA : ¬ A bb) (hA : ∀ q : Nat, σ.heap.size ≤ q → A q) (hL : L ≤ 3072) (hii : ii + 6 ≤ L) (hnn : nn < 512) (nx : lw_nx p l e σ m below meth cd bb L xs G A qJ qH qh cH qI qD qS qC cS cC qw cw qM qK qZ qN qB qY qi qo qm qp c1 c2 c3 c4 c5 c6 c7 c8 c9 Q ii nn) {H : Heap} {locs : List Loc} {ls : Array Slot} {fw : Nat → Int64} {s c ho hn hg hm hp : Nat → Nat} {wc wd tf : Nat} {K Z N B Y I O M P : Nat → Nat} {ct wr ofs th : Nat} {pa ey fo : Option Nat} {la : Nat} (hR : je_R s c ho hn hg hm hp wc wd tf K Z N B Y I O M P ct wr ofs) (hw : wr ≤ 81 * nn) (hof : ofs ≤ nn) (hP : va_P G jcl ((wJ qJ qH qh cH qI qD qS qC cS cC s c ho hn hg hm hp wc wd tf ++ [(qw, .inl (cw, 1, .inr (.inl fw)))]) ++ wM qM qK qZ qN qB qY qi qo qm qp c1 c2 c3 c4 c5 c6 c7 c8 c9 K Z N B Y I O M P ct wr ofs th pa ey fo la) H) (hD : va_D A ((wJ qJ qH qh cH qI qD qS qC cS cC s c ho hn hg hm hp wc wd tf ++ [(qw, .inl (cw, 1, .inr (.inl fw)))]) ++ wM qM qK qZ qN qB qY qi qo qm qp c1 c2 c3 c4 c5 c6 c7 c8 c9 K Z N B Y I O M P ct wr ofs th pa ey fo la)) (hS : va_S A σ.heap H locs) (hl : lv_has ls 8 [(4, .int (nI ii)), (0, .ref bb), (1, .ref qJ), (2, .ref qM), (3, .ref qw)]) : W p l e room_1 σ m #[Value.ref bb] below meth cd H locs (23 + 7 * nn) (3071 + 42 * nn) Q (F0 m 1014 ls []) := by
  have hx := C.1
  have hb := C.2.1
  have hown := C.2.2.2.1
  have hts := C.2.2.2.2.1
  have hKJ : va_K G jcl (tJ cS cC cH) σ := hKO.sub [0, 1, 2] rfl
  obtain ⟨z, hv_z, ev_z⟩ : ∃ z, z < 4294967296 ∧ jI (xs (ii + 1)) = z := ⟨_, jI_lt _, rfl⟩
  refine lv_aload_n hx hb dd_L_law_1014 rfl (lv_at hl 2 rfl) ?_
  refine lv_aload_n hx hb dd_L_law_1015 rfl (lv_at hl 1 rfl) ?_
  refine lv_iload hx hb dd_L_law_1016 (lv_at hl 0 rfl) ?_
  refine lv_iconst (v := nI 1) hx hb dd_L_law_1018 (by decide) ?_
  refine jl_iadd hx hb dd_L_law_1019 ?_
  refine jl_sld hx hb hX hbl hbA hS (by omega) (by omega) dd_L_law_1020 ?_
  refine jl_top (congrArg nI ev_z) ?_
  refine jr_callV C (ct_J_count l G qJ qH qh cH qI qD qS qC cS cC s c ho hn hg hm hp wc wd tf z hv_z hR.s0.ok hR.s1.ok hR.ho2 hR.hn2 hR.hg2 hR.hm2 hR.hp2) kl_L_133 ⟨Nat.le_of_ble_eq_true rfl, Nat.le_of_ble_eq_true rfl, rfl, rfl⟩ ⟨by show 23 + 7 * nn ≤ 601024; omega, by show 3071 + 42 * nn ≤ 7293034; omega⟩ (jw_left (jw_left hP)) hKJ (va_recv hKJ hP (ci := 3) (q0 := 4) rfl rfl) hl.1 rfl rfl (Nat.le_of_ble_eq_true rfl) dd_L_law_1021 ?_
  refine lv_aload_n hx hb dd_L_law_1024 rfl (lv_at hl 3 rfl) ?_
  refine lv_aload_n hx hb dd_L_law_1025 rfl (lv_at hl 1 rfl) ?_
  refine lv_iload hx hb dd_L_law_1026 (lv_at hl 0 rfl) ?_
  refine lv_iconst (v := nI 1) hx hb dd_L_law_1028 (by decide) ?_
  refine jl_iadd hx hb dd_L_law_1029 ?_
  refine jl_sld hx hb hX hbl hbA hS (by omega) (by omega) dd_L_law_1030 ?_
  refine jl_top (congrArg nI ev_z) ?_
  have hD := jw_permD List.perm_append_comm hD
  have hP := jw_permP List.perm_append_comm hP
  refine jm_callV C (ct_M_count l G qM qK qZ qN qB qY qi qo qm qp c1 c2 c3 c4 c5 c6 c7 c8 c9 K Z N B Y I O M P ct wr ofs th pa ey fo la z 40 hv_z (by decide) hR.s0.k3 hR.s0.z6 hR.s0.n2 hR.s0.b4 hR.s0.y2 hR.i2 hR.o2 hR.m2) kl_L_136 ⟨Nat.le_of_ble_eq_true rfl, Nat.le_of_ble_eq_true rfl⟩ ⟨by show 23 + 7 * nn + 0 ≤ 601024; omega, by show 3071 + 42 * nn + 0 ≤ 7293034; omega⟩ hP hD hS hA hKM (va_recv hKM hP (ci := 4) (q0 := 0) rfl rfl) hl.1 rfl rfl (Nat.le_of_ble_eq_true rfl) dd_L_law_1031 (fun H locs hP hD hS => ?_)
  refine lv_icmp_eq (tgt := 1039) hx hb dd_L_law_1034 (by decide) (fun _ => ?_) (fun h9 => absurd (congrArg jo (je_count hR z)) h9)
  have hD := jw_permD List.perm_append_comm hD
  have hP := jw_permP List.perm_append_comm hP
  refine W.widen (by show 23 + 7 * nn + 0 ≤ 23 + 7 * (nn + 1); omega) (by show 3071 + 42 * nn + 0 ≤ 3071 + 42 * (nn + 1); omega) ?_
  exact nx _ _ _ _ _ _ _ _ _ _ _ _ _ _ _ _ _ _ _ _ _ _ _ _ _ _ _ _ _ _ _ hR (by omega) (by omega) hP hD hS (lv_sub hl [0, 1, 2, 3, 4] rfl)

