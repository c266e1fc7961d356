set_option maxHeartbeats 4000000 in
set_option maxRecDepth 100000 in
theorem lw_case_rename {p : Program} {l : Launch} {e : Env} {σ : State} {m : MethodId} {below : List Frame} {meth : Method} {cd : Code} {bb L : Nat} {xs : Nat → Int32} {G : va_G} {A : Nat → Prop} {qJ qH : Nat} {qh : Nat → Nat} {cH : ClassId} {qI qD qS qC : Nat} {cS cC : ClassId} {qw : Nat} {cw : ClassId} {qM qK qZ qN qB qY qi qo qm qp : Nat} {c1 c2 c3 c4 c5 c6 c7 c8 c9 : ClassId} {Q : State → Prop} {ii nn : Nat} (hl9 : l.stackTraces = false) (C : jx p σ m #[Value.ref bb] meth cd cn_L code 8 ret) (hz : jz A σ σ.heap) (hy : jy σ) (hKO : va_K G jcl (tJ cS cC cH ++ [(cw, .long)]) σ) (hKM : va_K G jcl (tM c1 c2 c3 c4 c5 c6 c7 c8 c9) σ) (hX : va_X bb L xs σ σ.heap) (hbl : bb < σ.heap.size) (hbA : ¬ A bb) (hA : ∀ q : Nat, σ.heap.size ≤ q → A q) (hL : L ≤ 3072) (hii : ii + 6 ≤ L) (hnn : nn < 512) (nx : lw_nx p l e σ m below meth cd bb L xs G A qJ qH qh cH qI qD qS qC cS cC qw cw qM qK qZ qN qB qY qi qo qm qp c1 c2 c3 c4 c5 c6 c7 c8 c9 Q ii nn) {H : Heap} {locs : List Loc} {ls : Array Slot} {fw : Nat → Int64} {s c ho hn hg hm hp : Nat → Nat} {wc wd tf : Nat} {K Z N B Y I O M P : Nat → Nat} {ct wr ofs th : Nat} {pa ey fo : Option Nat} {la : Nat} (hR : je_R s c ho hn hg hm hp wc wd tf K Z N B Y I O M P ct wr ofs) (hw : wr ≤ 81 * nn) (hof : ofs ≤ nn) (hP : va_P G jcl ((wJ qJ qH qh cH qI qD qS qC cS cC s c ho hn hg hm hp wc wd tf ++ [(qw, .inl (cw, 1, .inr (.inl fw)))]) ++ wM qM qK qZ qN qB qY qi qo qm qp c1 c2 c3 c4 c5 c6 c7 c8 c9 K Z N B Y I O M P ct wr ofs th pa ey fo la) H) (hD : va_D A ((wJ qJ qH qh cH qI qD qS qC cS cC s c ho hn hg hm hp wc wd tf ++ [(qw, .inl (cw, 1, .inr (.inl fw)))]) ++ wM qM qK qZ qN qB qY qi qo qm qp c1 c2 c3 c4 c5 c6 c7 c8 c9 K Z N B Y I O M P ct wr ofs th pa ey fo la)) (hS : va_S A σ.heap H locs) (hl : lv_has ls 8 [(4, .int (nI ii)), (0, .ref bb), (1, .ref qJ), (2, .ref qM), (3, .ref qw)]) : W p l e room_1 σ m #[Value.ref bb] below meth cd H locs (23 + 7 * nn) (3071 + 42 * nn) Q (F0 m 663 ls []) := by
  have hx := C.1
  have hb := C.2.1
  have hown := C.2.2.2.1
  have hts := C.2.2.2.2.1
  have hKJ : va_K G jcl (tJ cS cC cH) σ := hKO.sub [0, 1, 2] rfl
  obtain ⟨u, hv_u, ev_u⟩ : ∃ u, u < 4294967296 ∧ jI (xs (ii + 1)) = u := ⟨_, jI_lt _, rfl⟩
  obtain ⟨v, hv_v, ev_v⟩ : ∃ v, v < 4294967296 ∧ jI (xs (ii + 2)) = v := ⟨_, jI_lt _, rfl⟩
  refine lv_aload_n hx hb dd_L_law_663 rfl (lv_at hl 2 rfl) ?_
  refine lv_aload_n hx hb dd_L_law_664 rfl (lv_at hl 1 rfl) ?_
  refine lv_iload hx hb dd_L_law_665 (lv_at hl 0 rfl) ?_
  refine lv_iconst (v := nI 1) hx hb dd_L_law_667 (by decide) ?_
  refine jl_iadd hx hb dd_L_law_668 ?_
  refine jl_sld hx hb hX hbl hbA hS (by omega) (by omega) dd_L_law_669 ?_
  refine jl_top (congrArg nI ev_u) ?_
  refine lv_aload_n hx hb dd_L_law_670 rfl (lv_at hl 1 rfl) ?_
  refine lv_iload hx hb dd_L_law_671 (lv_at hl 0 rfl) ?_
  refine lv_iconst (v := nI 2) hx hb dd_L_law_673 (by decide) ?_
  refine jl_iadd hx hb dd_L_law_674 ?_
  refine jl_sld hx hb hX hbl hbA hS (by omega) (by omega) dd_L_law_675 ?_
  refine jl_top (congrArg nI ev_v) ?_
  have E := je_rnT hR hv_u hv_v
  refine jL_callS (wr := [(qw, .inl (cw, 1, .inr (.inl fw)))] ++ wM qM qK qZ qN qB qY qi qo qm qp c1 c2 c3 c4 c5 c6 c7 c8 c9 K Z N B Y I O M P ct wr ofs th pa ey fo la) C hz hy (ct_L_rename l hl9 G qJ qH qh cH qI qD qS qC cS cC s c ho hn hg hm hp wc wd tf u v hv_u hv_v hR.s0.ok (hR.s0.premJ _ _ _)) kw_L_rename ⟨Nat.le_of_ble_eq_true rfl, Nat.le_of_ble_eq_true rfl⟩ ⟨by show 23 + 7 * nn + 7 ≤ 601024; omega, by show 3071 + 42 * nn + 42 ≤ 7293034; omega⟩ hP hD hS hA hKJ hl.1 rfl rfl (Nat.le_of_ble_eq_true rfl) dd_L_law_676 (fun o9 w9 H locs hxx hP hD hS => ?_)
  rcases hxx with ⟨h0, rfl, rfl⟩ | ⟨h0, rfl, rfl⟩
  · skip
    have hP : va_P G jcl (((wJ qJ qH qh cH qI qD qS qC cS cC (jf_rnmS s u v) c ho hn hg hm hp wc wd tf) ++ [(qw, .inl (cw, 1, .inr (.inl fw)))]) ++ wM qM qK qZ qN qB qY qi qo qm qp c1 c2 c3 c4 c5 c6 c7 c8 c9 K Z N B Y I O M P ct wr ofs th pa ey fo la) H := hP
    have hD : va_D A (((wJ qJ qH qh cH qI qD qS qC cS cC (jf_rnmS s u v) c ho hn hg hm hp wc wd tf) ++ [(qw, .inl (cw, 1, .inr (.inl fw)))]) ++ wM qM qK qZ qN qB qY qi qo qm qp c1 c2 c3 c4 c5 c6 c7 c8 c9 K Z N B Y I O M P ct wr ofs th pa ey fo la) := hD
    have hm0 : (jm_rnT K Z B Y u v) = 0 := by rw [← E, h0]
    refine lv_istore (lv' := [(5, .int (nI 0)), (4, .int (nI ii)), (0, .ref bb), (1, .ref qJ), (2, .ref qM), (3, .ref qw)]) hx hb dd_L_law_679 hl (by decide) rfl (fun ls hl => ?_)
    refine lv_aload_n hx hb dd_L_law_681 rfl (lv_at hl 4 rfl) ?_
    refine lv_aload_n hx hb dd_L_law_682 rfl (lv_at hl 2 rfl) ?_
    refine lv_iload hx hb dd_L_law_683 (lv_at hl 1 rfl) ?_
    refine lv_iconst (v := nI 1) hx hb dd_L_law_685 (by decide) ?_
    refine jl_iadd hx hb dd_L_law_686 ?_
    refine jl_sld hx hb hX hbl hbA hS (by omega) (by omega) dd_L_law_687 ?_
    refine jl_top (congrArg nI ev_u) ?_
    refine lv_aload_n hx hb dd_L_law_688 rfl (lv_at hl 2 rfl) ?_
    refine lv_iload hx hb dd_L_law_689 (lv_at hl 1 rfl) ?_
    refine lv_iconst (v := nI 2) hx hb dd_L_law_691 (by decide) ?_
    refine jl_iadd hx hb dd_L_law_692 ?_
    refine jl_sld hx hb hX hbl hbA hS (by omega) (by omega) dd_L_law_693 ?_
    refine jl_top (congrArg nI ev_v) ?_
    have hD := jw_permD List.perm_append_comm hD
    have hP := jw_permP List.perm_append_comm hP
    refine jm_callV C (ct_M_rename l G qM qK qZ qN qB qY qi qo qm qp c1 c2 c3 c4 c5 c6 c7 c8 c9 K Z N B Y I O M P ct wr ofs th pa ey fo la u v 40 hv_u hv_v hR.s0.v.ents (fun h9 => je_rnPrem hR hv_u hv_v h9) (by decide) hR.s0.b4 hR.s0.k3 hR.s0.z6 hR.s0.y2) kl_L_111 ⟨Nat.le_of_ble_eq_true rfl, Nat.le_of_ble_eq_true rfl⟩ ⟨by show 23 + 7 * nn + 7 + 0 ≤ 601024; omega, by show 3071 + 42 * nn + 42 + 0 ≤ 7293034; omega⟩ hP hD hS hA hKM (va_recv hKM hP (ci := 4) (q0 := 0) rfl rfl) hl.1 rfl rfl (Nat.le_of_ble_eq_true rfl) dd_L_law_694 (fun H locs hP hD hS => ?_)
    simp only [if_pos hm0] at hP hD
    refine lv_aload_n hx hb dd_L_law_697 rfl (lv_at hl 4 rfl) ?_
    refine jr_callV C (ct_M_thrown l G _ _ _ _ _ _ _ _ _ _ _ _ _ _ _ _ _ _ _ _ _ _ _ _ _ _ _ _ _ _ _ _ _ _ _ _) kl_L_78 ⟨Nat.le_of_ble_eq_true rfl, Nat.le_of_ble_eq_true rfl, rfl, rfl⟩ ⟨by show 23 + 7 * nn + 7 + 0 ≤ 601024; omega, by show 3071 + 42 * nn + 42 + 0 ≤ 7293034; omega⟩ (jw_left hP) hKM (va_recv hKM hP (ci := 4) (q0 := 0) rfl rfl) hl.1 rfl rfl (Nat.le_of_ble_eq_true rfl) dd_L_law_698 ?_
    refine lv_iload hx hb dd_L_law_701 (lv_at hl 0 rfl) ?_
    refine lv_icmp_eq (tgt := 708) hx hb dd_L_law_703 (by decide) (fun _ => ?_) (fun h9 => absurd (show nI (jm_rnT K Z B Y u v) = nI 0 from by rw [hm0]) h9)
    refine lv_goto (tgt := 1039) hx hb dd_L_law_708 (by decide) ?_
    have hD := jw_permD List.perm_append_comm hD
    have hP := jw_permP List.perm_append_comm hP
    refine W.widen (by show 23 + 7 * nn + 7 + 0 ≤ 23 + 7 * (nn + 1); omega) (by show 3071 + 42 * nn + 42 + 0 ≤ 3071 + 42 * (nn + 1); omega) ?_
    exact nx _ _ _ _ _ _ _ _ _ _ _ _ _ _ _ _ _ _ _ _ _ _ _ _ _ _ _ _ _ _ _ (je_rename hR (m := 40) hv_u hv_v (by decide) hm0) (by omega) (by omega) hP hD hS (lv_sub hl [1, 2, 3, 4, 5] rfl)
  · skip
    have hP : va_P G jcl (((wJ qJ qH qh cH qI qD qS qC cS cC s c ho hn hg hm hp wc wd tf) ++ [(qw, .inl (cw, 1, .inr (.inl fw)))]) ++ wM qM qK qZ qN qB qY qi qo qm qp c1 c2 c3 c4 c5 c6 c7 c8 c9 K Z N B Y I O M P ct wr ofs th pa ey fo la) H := hP
    have hD : va_D A (((wJ qJ qH qh cH qI qD qS qC cS cC s c ho hn hg hm hp wc wd tf) ++ [(qw, .inl (cw, 1, .inr (.inl fw)))]) ++ wM qM qK qZ qN qB qY qi qo qm qp c1 c2 c3 c4 c5 c6 c7 c8 c9 K Z N B Y I O M P ct wr ofs th pa ey fo la) := hD
    have hm0 : ¬ (jm_rnT K Z B Y u v) = 0 := by rw [← E]; exact h0
    refine lv_istore (lv' := [(5, .int (nI ((jf_rnmT s u v)))), (4, .int (nI ii)), (0, .ref bb), (1, .ref qJ), (2, .ref qM), (3, .ref qw)]) hx hb dd_L_law_679 hl (by decide) rfl (fun ls hl => ?_)
    refine lv_aload_n hx hb dd_L_law_681 rfl (lv_at hl 4 rfl) ?_
    refine lv_aload_n hx hb dd_L_law_682 rfl (lv_at hl 2 rfl) ?_
    refine lv_iload hx hb dd_L_law_683 (lv_at hl 1 rfl) ?_
    refine lv_iconst (v := nI 1) hx hb dd_L_law_685 (by decide) ?_
    refine jl_iadd hx hb dd_L_law_686 ?_
    refine jl_sld hx hb hX hbl hbA hS (by omega) (by omega) dd_L_law_687 ?_
    refine jl_top (congrArg nI ev_u) ?_
    refine lv_aload_n hx hb dd_L_law_688 rfl (lv_at hl 2 rfl) ?_
    refine lv_iload hx hb dd_L_law_689 (lv_at hl 1 rfl) ?_
    refine lv_iconst (v := nI 2) hx hb dd_L_law_691 (by decide) ?_
    refine jl_iadd hx hb dd_L_law_692 ?_
    refine jl_sld hx hb hX hbl hbA hS (by omega) (by omega) dd_L_law_693 ?_
    refine jl_top (congrArg nI ev_v) ?_
    have hD := jw_permD List.perm_append_comm hD
    have hP := jw_permP List.perm_append_comm hP
    refine jm_callV C (ct_M_rename l G qM qK qZ qN qB qY qi qo qm qp c1 c2 c3 c4 c5 c6 c7 c8 c9 K Z N B Y I O M P ct wr ofs th pa ey fo la u v 40 hv_u hv_v hR.s0.v.ents (fun h9 => je_rnPrem hR hv_u hv_v h9) (by decide) hR.s0.b4 hR.s0.k3 hR.s0.z6 hR.s0.y2) kl_L_111 ⟨Nat.le_of_ble_eq_true rfl, Nat.le_of_ble_eq_true rfl⟩ ⟨by show 23 + 7 * nn + 7 + 0 ≤ 601024; omega, by show 3071 + 42 * nn + 42 + 0 ≤ 7293034; omega⟩ hP hD hS hA hKM (va_recv hKM hP (ci := 4) (q0 := 0) rfl rfl) hl.1 rfl rfl (Nat.le_of_ble_eq_true rfl) dd_L_law_694 (fun H locs hP hD hS => ?_)
    simp only [if_neg hm0] at hP hD
    refine lv_aload_n hx hb dd_L_law_697 rfl (lv_at hl 4 rfl) ?_
    refine jr_callV C (ct_M_thrown l G _ _ _ _ _ _ _ _ _ _ _ _ _ _ _ _ _ _ _ _ _ _ _ _ _ _ _ _ _ _ _ _ _ _ _ _) kl_L_78 ⟨Nat.le_of_ble_eq_true rfl, Nat.le_of_ble_eq_true rfl, rfl, rfl⟩ ⟨by show 23 + 7 * nn + 7 + 0 ≤ 601024; omega, by show 3071 + 42 * nn + 42 + 0 ≤ 7293034; omega⟩ (jw_left hP) hKM (va_recv hKM hP (ci := 4) (q0 := 0) rfl rfl) hl.1 rfl rfl (Nat.le_of_ble_eq_true rfl) dd_L_law_698 ?_
    refine lv_iload hx hb dd_L_law_701 (lv_at hl 0 rfl) ?_
    refine lv_icmp_eq (tgt := 708) hx hb dd_L_law_703 (by decide) (fun _ => ?_) (fun h9 => absurd (show nI (jm_rnT K Z B Y u v) = nI ((jf_rnmT s u v)) from by rw [← E]) h9)
    refine lv_goto (tgt := 1039) hx hb dd_L_law_708 (by decide) ?_
    have hD := jw_permD List.perm_append_comm hD
    have hP := jw_permP List.perm_append_comm hP
    refine W.widen (by show 23 + 7 * nn + 7 + 0 ≤ 23 + 7 * (nn + 1); omega) (by show 3071 + 42 * nn + 42 + 0 ≤ 3071 + 42 * (nn + 1); omega) ?_
    exact nx _ _ _ _ _ _ _ _ _ _ _ _ _ _ _ _ _ _ _ _ _ _ _ _ _ _ _ _ _ _ _ hR (by omega) (by omega) hP hD hS (lv_sub hl [1, 2, 3, 4, 5] rfl)

set_option maxHeartbeats 4000000 in
set_option maxRecDepth 100000 in
theorem lw_case_truncate {p : Program} {l : Launch} {e : Env} {σ : State} {m : MethodId} {below : List Frame} {meth : Method} {cd : Code} {bb L : Nat} {xs : Nat → Int32} {G : va_G} {A : Nat → Prop} {qJ qH : Nat} {qh : Nat → Nat} {cH : ClassId} {qI qD qS qC : Nat} {cS cC : ClassId} {qw : Nat} {cw : ClassId} {qM qK qZ qN qB qY qi qo qm qp : Nat} {c1 c2 c3 c4 c5 c6 c7 c8 c9 : ClassId} {Q : State → Prop} {ii nn : Nat} (hl9 : l.stackTraces = false) (C : jx p σ m #[Value.ref bb] meth cd cn_L code 8 ret) (hz : jz A σ σ.heap) (hy : jy σ) (hKO : va_K G jcl (tJ cS cC cH ++ [(cw, .long)]) σ) (hKM : va_K G jcl (tM c1 c2 c3 c4 c5 c6 c7 c8 c9) σ) (hX : va_X bb L xs σ σ.heap) (hbl : bb < σ.heap.size) (hbA : ¬ A bb) (hA : ∀ q : Nat, σ.heap.size ≤ q → A q) (hL : L ≤ 3072) (hii : ii + 6 ≤ L) (hnn : nn < 512) (nx : lw_nx p l e σ m below meth cd bb L xs G A qJ qH qh cH qI qD qS qC cS cC qw cw qM qK qZ qN qB qY qi qo qm qp c1 c2 c3 c4 c5 c6 c7 c8 c9 Q ii nn) {H : Heap} {locs : List Loc} {ls : Array Slot} {fw : Nat → Int64} {s c ho hn hg hm hp : Nat → Nat} {wc wd tf : Nat} {K Z N B Y I O M P : Nat → Nat} {ct wr ofs th : Nat} {pa ey fo : Option Nat} {la : Nat} (hR : je_R s c ho hn hg hm hp wc wd tf K Z N B Y I O M P ct wr ofs) (hw : wr ≤ 81 * nn) (hof : ofs ≤ nn) (hP : va_P G jcl ((wJ qJ qH qh cH qI qD qS qC cS cC s c ho hn hg hm hp wc wd tf ++ [(qw, .inl (cw, 1, .inr (.inl fw)))]) ++ wM qM qK qZ qN qB qY qi qo qm qp c1 c2 c3 c4 c5 c6 c7 c8 c9 K Z N B Y I O M P ct wr ofs th pa ey fo la) H) (hD : va_D A ((wJ qJ qH qh cH qI qD qS qC cS cC s c ho hn hg hm hp wc wd tf ++ [(qw, .inl (cw, 1, .inr (.inl fw)))]) ++ wM qM qK qZ qN qB qY qi qo qm qp c1 c2 c3 c4 c5 c6 c7 c8 c9 K Z N B Y I O M P ct wr ofs th pa ey fo la)) (hS : va_S A σ.heap H locs) (hl : lv_has ls 8 [(4, .int (nI ii)), (0, .ref bb), (1, .ref qJ), (2, .ref qM), (3, .ref qw)]) : W p l e room_1 σ m #[Value.ref bb] below meth cd H locs (23 + 7 * nn) (3071 + 42 * nn) Q (F0 m 711 ls []) := by
  have hx := C.1
  have hb := C.2.1
  have hown := C.2.2.2.1
  have hts := C.2.2.2.2.1
  have hKJ : va_K G jcl (tJ cS cC cH) σ := hKO.sub [0, 1, 2] rfl
  obtain ⟨u, hv_u, ev_u⟩ : ∃ u, u < 4294967296 ∧ jI (xs (ii + 1)) = u := ⟨_, jI_lt _, rfl⟩
  obtain ⟨z, hv_z, ev_z⟩ : ∃ z, z < 4294967296 ∧ jI (xs (ii + 2)) = z := ⟨_, jI_lt _, rfl⟩
  refine lv_aload_n hx hb dd_L_law_711 rfl (lv_at hl 2 rfl) ?_
  refine lv_aload_n hx hb dd_L_law_712 rfl (lv_at hl 1 rfl) ?_
  refine lv_iload hx hb dd_L_law_713 (lv_at hl 0 rfl) ?_
  refine lv_iconst (v := nI 1) hx hb dd_L_law_715 (by decide) ?_
  refine jl_iadd hx hb dd_L_law_716 ?_
  refine jl_sld hx hb hX hbl hbA hS (by omega) (by omega) dd_L_law_717 ?_
  refine jl_top (congrArg nI ev_u) ?_
  refine lv_aload_n hx hb dd_L_law_718 rfl (lv_at hl 1 rfl) ?_
  refine lv_iload hx hb dd_L_law_719 (lv_at hl 0 rfl) ?_
  refine lv_iconst (v := nI 2) hx hb dd_L_law_721 (by decide) ?_
  refine jl_iadd hx hb dd_L_law_722 ?_
  refine jl_sld hx hb hX hbl hbA hS (by omega) (by omega) dd_L_law_723 ?_
  refine jl_top (congrArg nI ev_z) ?_
  have E := je_trunc hR (z := z) (m := 40) hv_u (by decide)
  refine jL_callS (wr := [(qw, .inl (cw, 1, .inr (.inl fw)))] ++ wM qM qK qZ qN qB qY qi qo qm qp c1 c2 c3 c4 c5 c6 c7 c8 c9 K Z N B Y I O M P ct wr ofs th pa ey fo la) C hz hy (ct_L_truncate l hl9 G qJ qH qh cH qI qD qS qC cS cC s c ho hn hg hm hp wc wd tf u z hv_u hv_z hR.s0.ok) kw_L_truncate ⟨Nat.le_of_ble_eq_true rfl, Nat.le_of_ble_eq_true rfl⟩ ⟨by show 23 + 7 * nn + 5 ≤ 601024; omega, by show 3071 + 42 * nn + 30 ≤ 7293034; omega⟩ hP hD hS hA hKJ hl.1 rfl rfl (Nat.le_of_ble_eq_true rfl) dd_L_law_724 (fun o9 w9 H locs hxx hP hD hS => ?_)
  rcases hxx with ⟨h0, rfl, rfl⟩ | ⟨h0, rfl, rfl⟩
  · skip
    have hP : va_P G jcl (((wJ qJ qH qh cH qI qD qS qC cS cC (jf_resize s ((jf_inodeAt s u).getD 0) z) c ho hn hg hm hp wc wd tf) ++ [(qw, .inl (cw, 1, .inr (.inl fw)))]) ++ wM qM qK qZ qN qB qY qi qo qm qp c1 c2 c3 c4 c5 c6 c7 c8 c9 K Z N B Y I O M P ct wr ofs th pa ey fo la) H := hP
    have hD : va_D A (((wJ qJ qH qh cH qI qD qS qC cS cC (jf_resize s ((jf_inodeAt s u).getD 0) z) c ho hn hg hm hp wc wd tf) ++ [(qw, .inl (cw, 1, .inr (.inl fw)))]) ++ wM qM qK qZ qN qB qY qi qo qm qp c1 c2 c3 c4 c5 c6 c7 c8 c9 K Z N B Y I O M P ct wr ofs th pa ey fo la) := hD
    have hm0 : (jm_trT K Z B Y u z) = 0 := by rw [← E.1, h0]
    refine lv_istore (lv' := [(5, .int (nI 0)), (4, .int (nI ii)), (0, .ref bb), (1, .ref qJ), (2, .ref qM), (3, .ref qw)]) hx hb dd_L_law_727 hl (by decide) rfl (fun ls hl => ?_)
    refine lv_aload_n hx hb dd_L_law_729 rfl (lv_at hl 4 rfl) ?_
    refine lv_aload_n hx hb dd_L_law_730 rfl (lv_at hl 2 rfl) ?_
    refine lv_iload hx hb dd_L_law_731 (lv_at hl 1 rfl) ?_
    refine lv_iconst (v := nI 1) hx hb dd_L_law_733 (by decide) ?_
    refine jl_iadd hx hb dd_L_law_734 ?_
    refine jl_sld hx hb hX hbl hbA hS (by omega) (by omega) dd_L_law_735 ?_
    refine jl_top (congrArg nI ev_u) ?_
    refine lv_aload_n hx hb dd_L_law_736 rfl (lv_at hl 2 rfl) ?_
    refine lv_iload hx hb dd_L_law_737 (lv_at hl 1 rfl) ?_
    refine lv_iconst (v := nI 2) hx hb dd_L_law_739 (by decide) ?_
    refine jl_iadd hx hb dd_L_law_740 ?_
    refine jl_sld hx hb hX hbl hbA hS (by omega) (by omega) dd_L_law_741 ?_
    refine jl_top (congrArg nI ev_z) ?_
    have hD := jw_permD List.perm_append_comm hD
    have hP := jw_permP List.perm_append_comm hP
    refine jm_callV C (ct_M_truncate l G qM qK qZ qN qB qY qi qo qm qp c1 c2 c3 c4 c5 c6 c7 c8 c9 K Z N B Y I O M P ct wr ofs th pa ey fo la u z 40 hv_u hv_z hR.s0.v.ents (by decide) hR.s0.b4 hR.s0.k3 hR.s0.z6 hR.s0.y2) kl_L_114 ⟨Nat.le_of_ble_eq_true rfl, Nat.le_of_ble_eq_true rfl⟩ ⟨by show 23 + 7 * nn + 5 + 0 ≤ 601024; omega, by show 3071 + 42 * nn + 30 + 0 ≤ 7293034; omega⟩ hP hD hS hA hKM (va_recv hKM hP (ci := 4) (q0 := 0) rfl rfl) hl.1 rfl rfl (Nat.le_of_ble_eq_true rfl) dd_L_law_742 (fun H locs hP hD hS => ?_)
    simp only [if_pos hm0] at hP hD
    refine lv_aload_n hx hb dd_L_law_745 rfl (lv_at hl 4 rfl) ?_
    refine jr_callV C (ct_M_thrown l G _ _ _ _ _ _ _ _ _ _ _ _ _ _ _ _ _ _ _ _ _ _ _ _ _ _ _ _ _ _ _ _ _ _ _ _) kl_L_78 ⟨Nat.le_of_ble_eq_true rfl, Nat.le_of_ble_eq_true rfl, rfl, rfl⟩ ⟨by show 23 + 7 * nn + 5 + 0 ≤ 601024; omega, by show 3071 + 42 * nn + 30 + 0 ≤ 7293034; omega⟩ (jw_left hP) hKM (va_recv hKM hP (ci := 4) (q0 := 0) rfl rfl) hl.1 rfl rfl (Nat.le_of_ble_eq_true rfl) dd_L_law_746 ?_
    refine lv_iload hx hb dd_L_law_749 (lv_at hl 0 rfl) ?_
    refine lv_icmp_eq (tgt := 756) hx hb dd_L_law_751 (by decide) (fun _ => ?_) (fun h9 => absurd (show nI (jm_trT K Z B Y u z) = nI 0 from by rw [hm0]) h9)
    refine lv_goto (tgt := 1039) hx hb dd_L_law_756 (by decide) ?_
    have hD := jw_permD List.perm_append_comm hD
    have hP := jw_permP List.perm_append_comm hP
    refine W.widen (by show 23 + 7 * nn + 5 + 0 ≤ 23 + 7 * (nn + 1); omega) (by show 3071 + 42 * nn + 30 + 0 ≤ 3071 + 42 * (nn + 1); omega) ?_
    exact nx _ _ _ _ _ _ _ _ _ _ _ _ _ _ _ _ _ _ _ _ _ _ _ _ _ _ _ _ _ _ _ (E.2 hm0) (by omega) (by omega) hP hD hS (lv_sub hl [1, 2, 3, 4, 5] rfl)
  · skip
    have hP : va_P G jcl (((wJ qJ qH qh cH qI qD qS qC cS cC s c ho hn hg hm hp wc wd tf) ++ [(qw, .inl (cw, 1, .inr (.inl fw)))]) ++ wM qM qK qZ qN qB qY qi qo qm qp c1 c2 c3 c4 c5 c6 c7 c8 c9 K Z N B Y I O M P ct wr ofs th pa ey fo la) H := hP
    have hD : va_D A (((wJ qJ qH qh cH qI qD qS qC cS cC s c ho hn hg hm hp wc wd tf) ++ [(qw, .inl (cw, 1, .inr (.inl fw)))]) ++ wM qM qK qZ qN qB qY qi qo qm qp c1 c2 c3 c4 c5 c6 c7 c8 c9 K Z N B Y I O M P ct wr ofs th pa ey fo la) := hD
    have hm0 : ¬ (jm_trT K Z B Y u z) = 0 := by rw [← E.1]; exact h0
    refine lv_istore (lv' := [(5, .int (nI ((jf_truT s u z)))), (4, .int (nI ii)), (0, .ref bb), (1, .ref qJ), (2, .ref qM), (3, .ref qw)]) hx hb dd_L_law_727 hl (by decide) rfl (fun ls hl => ?_)
    refine lv_aload_n hx hb dd_L_law_729 rfl (lv_at hl 4 rfl) ?_
    refine lv_aload_n hx hb dd_L_law_730 rfl (lv_at hl 2 rfl) ?_
    refine lv_iload hx hb dd_L_law_731 (lv_at hl 1 rfl) ?_
    refine lv_iconst (v := nI 1) hx hb dd_L_law_733 (by decide) ?_
    refine jl_iadd hx hb dd_L_law_734 ?_
    refine jl_sld hx hb hX hbl hbA hS (by omega) (by omega) dd_L_law_735 ?_
    refine jl_top (congrArg nI ev_u) ?_
    refine lv_aload_n hx hb dd_L_law_736 rfl (lv_at hl 2 rfl) ?_
    refine lv_iload hx hb dd_L_law_737 (lv_at hl 1 rfl) ?_
    refine lv_iconst (v := nI 2) hx hb dd_L_law_739 (by decide) ?_
    refine jl_iadd hx hb dd_L_law_740 ?_
    refine jl_sld hx hb hX hbl hbA hS (by omega) (by omega) dd_L_law_741 ?_
    refine jl_top (congrArg nI ev_z) ?_
    have hD := jw_permD List.perm_append_comm hD
    have hP := jw_permP List.perm_append_comm hP
    refine jm_callV C (ct_M_truncate l G qM qK qZ qN qB qY qi qo qm qp c1 c2 c3 c4 c5 c6 c7 c8 c9 K Z N B Y I O M P ct wr ofs th pa ey fo la u z 40 hv_u hv_z hR.s0.v.ents (by decide) hR.s0.b4 hR.s0.k3 hR.s0.z6 hR.s0.y2) kl_L_114 ⟨Nat.le_of_ble_eq_true rfl, Nat.le_of_ble_eq_true rfl⟩ ⟨by show 23 + 7 * nn + 5 + 0 ≤ 601024; omega, by show 3071 + 42 * nn + 30 + 0 ≤ 7293034; omega⟩ hP hD hS hA hKM (va_recv hKM hP (ci := 4) (q0 := 0) rfl rfl) hl.1 rfl rfl (Nat.le_of_ble_eq_true rfl) dd_L_law_742 (fun H locs hP hD hS => ?_)
    simp only [if_neg hm0] at hP hD
    refine lv_aload_n hx hb dd_L_law_745 rfl (lv_at hl 4 rfl) ?_
    refine jr_callV C (ct_M_thrown l G _ _ _ _ _ _ _ _ _ _ _ _ _ _ _ _ _ _ _ _ _ _ _ _ _ _ _ _ _ _ _ _ _ _ _ _) kl_L_78 ⟨Nat.le_of_ble_eq_true rfl, Nat.le_of_ble_eq_true rfl, rfl, rfl⟩ ⟨by show 23 + 7 * nn + 5 + 0 ≤ 601024; omega, by show 3071 + 42 * nn + 30 + 0 ≤ 7293034; omega⟩ (jw_left hP) hKM (va_recv hKM hP (ci := 4) (q0 := 0) rfl rfl) hl.1 rfl rfl (Nat.le_of_ble_eq_true rfl) dd_L_law_746 ?_
    refine lv_iload hx hb dd_L_law_749 (lv_at hl 0 rfl) ?_
    refine lv_icmp_eq (tgt := 756) hx hb dd_L_law_751 (by decide) (fun _ => ?_) (fun h9 => absurd (show nI (jm_trT K Z B Y u z) = nI ((jf_truT s u z)) from by rw [← E.1]) h9)
    refine lv_goto (tgt := 1039) hx hb dd_L_law_756 (by decide) ?_
    have hD := jw_permD List.perm_append_comm hD
    have hP := jw_permP List.perm_append_comm hP
    refine W.widen (by show 23 + 7 * nn + 5 + 0 ≤ 23 + 7 * (nn + 1); omega) (by show 3071 + 42 * nn + 30 + 0 ≤ 3071 + 42 * (nn + 1); omega) ?_
    exact nx _ _ _ _ _ _ _ _ _ _ _ _ _ _ _ _ _ _ _ _ _ _ _ _ _ _ _ _ _ _ _ hR (by omega) (by omega) hP hD hS (lv_sub hl [1, 2, 3, 4, 5] rfl)

set_option maxHeartbeats 4000000 in
set_option maxRecDepth 100000 in
theorem lw_case_stat {p : Program} {l : Launch} {e : Env} {σ : State} {m : MethodId} {below : List Frame} {meth : Method} {cd : Code} {bb L : Nat} {xs : Nat → Int32} {G : va_G} {A : Nat → Prop} {qJ qH : Nat} {qh : Nat → Nat} {cH : ClassId} {qI qD qS qC : Nat} {cS cC : ClassId} {qw : Nat} {cw : ClassId} {qM qK qZ qN qB qY qi qo qm qp : Nat} {c1 c2 c3 c4 c5 c6 c7 c8 c9 : ClassId} {Q : State → Prop} {ii nn : Nat} (hl9 : l.stackTraces = false) (C : jx p σ m #[Value.ref bb] meth cd cn_L code 8 ret) (hz : jz A σ σ.heap) (hy : jy σ) (hKO : va_K G jcl (tJ cS cC cH ++ [(cw, .long)]) σ) (hKM : va_K G jcl (tM c1 c2 c3 c4 c5 c6 c7 c8 c9) σ) (hX : va_X bb L xs σ σ.heap) (hbl : bb < σ.heap.size) (hbA : ¬ A bb) (hA : ∀ q : Nat, σ.heap.size ≤ q → A q) (hL : L ≤ 3072) (hii : ii + 6 ≤ L) (hnn : nn < 512) (nx : lw_nx p l e σ m below meth cd bb L xs G A qJ qH qh cH qI qD qS qC cS cC qw cw qM qK qZ qN qB qY qi qo qm qp c1 c2 c3 c4 c5 c6 c7 c8 c9 Q ii nn) {H : Heap} {locs : List Loc} {ls : Array Slot} {fw : Nat → Int64} {s c ho hn hg hm hp : Nat → Nat} {wc wd tf : Nat} {K Z N B Y I O M P : Nat → Nat} {ct wr ofs th : Nat} {pa ey fo : Option Nat} {la : Nat} (hR : je_R s c ho hn hg hm hp wc wd tf K Z N B Y I O M P ct wr ofs) (hw : wr ≤ 81 * nn) (hof : ofs ≤ nn) (hP : va_P G jcl ((wJ qJ qH qh cH qI qD qS qC cS cC s c ho hn hg hm hp wc wd tf ++ [(qw, .inl (cw, 1, .inr (.inl fw)))]) ++ wM qM qK qZ qN qB qY qi qo qm qp c1 c2 c3 c4 c5 c6 c7 c8 c9 K Z N B Y I O M P ct wr ofs th pa ey fo la) H) (hD : va_D A ((wJ qJ qH qh cH qI qD qS qC cS cC s c ho hn hg hm hp wc wd tf ++ [(qw, .inl (cw, 1, .inr (.inl fw)))]) ++ wM qM qK qZ qN qB qY qi qo qm qp c1 c2 c3 c4 c5 c6 c7 c8 c9 K Z N B Y I O M P ct wr ofs th pa ey fo la)) (hS : va_S A σ.heap H locs) (hl : lv_has ls 8 [(4, .int (nI ii)), (0, .ref bb), (1, .ref qJ), (2, .ref qM), (3, .ref qw)]) : W p l e room_1 σ m #[Value.ref bb] below meth cd H locs (23 + 7 * nn) (3071 + 42 * nn) Q (F0 m 759 ls []) := by
  have hx := C.1
  have hb := C.2.1
  have hown := C.2.2.2.1
  have hts := C.2.2.2.2.1
  have hKJ : va_K G jcl (tJ cS cC cH) σ := hKO.sub [0, 1, 2] rfl
  obtain ⟨u, hv_u, ev_u⟩ : ∃ u, u < 4294967296 ∧ jI (xs (ii + 1)) = u := ⟨_, jI_lt _, rfl⟩
  obtain ⟨z, hv_z, ev_z⟩ : ∃ z, z < 4294967296 ∧ jI (xs (ii + 2)) = z := ⟨_, jI_lt _, rfl⟩
  refine lv_aload_n hx hb dd_L_law_759 rfl (lv_at hl 2 rfl) ?_
  refine lv_aload_n hx hb dd_L_law_760 rfl (lv_at hl 1 rfl) ?_
  refine lv_iload hx hb dd_L_law_761 (lv_at hl 0 rfl) ?_
  refine lv_iconst (v := nI 1) hx hb dd_L_law_763 (by decide) ?_
  refine jl_iadd hx hb dd_L_law_764 ?_
  refine jl_sld hx hb hX hbl hbA hS (by omega) (by omega) dd_L_law_765 ?_
  refine jl_top (congrArg nI ev_u) ?_
  refine lv_aload_n hx hb dd_L_law_766 rfl (lv_at hl 1 rfl) ?_
  refine lv_iload hx hb dd_L_law_767 (lv_at hl 0 rfl) ?_
  refine lv_iconst (v := nI 2) hx hb dd_L_law_769 (by decide) ?_
  refine jl_iadd hx hb dd_L_law_770 ?_
  refine jl_sld hx hb hX hbl hbA hS (by omega) (by omega) dd_L_law_771 ?_
  refine jl_top (congrArg nI ev_z) ?_
  refine lv_aload_n hx hb dd_L_law_772 rfl (lv_at hl 4 rfl) ?_
  have E := je_stat hR (z := z) hv_u
  refine jL_callS (wr := wM qM qK qZ qN qB qY qi qo qm qp c1 c2 c3 c4 c5 c6 c7 c8 c9 K Z N B Y I O M P ct wr ofs th pa ey fo la) C hz hy (ct_L_stat l hl9 G qJ qH qh cH qI qD qS qC cS cC s c ho hn hg hm hp wc wd tf qw cw fw u z hv_u hv_z hR.s0.ok) kw_L_stat ⟨Nat.le_of_ble_eq_true rfl, Nat.le_of_ble_eq_true rfl⟩ ⟨by show 23 + 7 * nn + 3 ≤ 601024; omega, by show 3071 + 42 * nn + 18 ≤ 7293034; omega⟩ hP hD hS hA hKO hl.1 rfl rfl (Nat.le_of_ble_eq_true rfl) dd_L_law_773 (fun o9 w9 H locs hxx hP hD hS => ?_)
  rcases hxx with ⟨h0, rfl, rfl⟩ | ⟨h0, rfl, rfl⟩
  · skip
    have hP : va_P G jcl (((wJ qJ qH qh cH qI qD qS qC cS cC s c ho hn hg hm hp wc wd tf) ++ [(qw, .inl (cw, 1, .inr (.inl (vp_updL fw (nI 0).toNatClampNeg (lN ((jf_statR s ((jf_inodeAt s u).getD 0) z)))))))]) ++ wM qM qK qZ qN qB qY qi qo qm qp c1 c2 c3 c4 c5 c6 c7 c8 c9 K Z N B Y I O M P ct wr ofs th pa ey fo la) H := hP
    have hD : va_D A (((wJ qJ qH qh cH qI qD qS qC cS cC s c ho hn hg hm hp wc wd tf) ++ [(qw, .inl (cw, 1, .inr (.inl (vp_updL fw (nI 0).toNatClampNeg (lN ((jf_statR s ((jf_inodeAt s u).getD 0) z)))))))]) ++ wM qM qK qZ qN qB qY qi qo qm qp c1 c2 c3 c4 c5 c6 c7 c8 c9 K Z N B Y I O M P ct wr ofs th pa ey fo la) := hD
    have hm0 : (jm_stT K Z Y u z) = 0 := by rw [← E.1, h0]
    refine lv_istore (lv' := [(5, .int (nI 0)), (4, .int (nI ii)), (0, .ref bb), (1, .ref qJ), (2, .ref qM), (3, .ref qw)]) hx hb dd_L_law_776 hl (by decide) rfl (fun ls hl => ?_)
    refine lv_aload_n hx hb dd_L_law_778 rfl (lv_at hl 4 rfl) ?_
    refine lv_aload_n hx hb dd_L_law_779 rfl (lv_at hl 2 rfl) ?_
    refine lv_iload hx hb dd_L_law_780 (lv_at hl 1 rfl) ?_
    refine lv_iconst (v := nI 1) hx hb dd_L_law_782 (by decide) ?_
    refine jl_iadd hx hb dd_L_law_783 ?_
    refine jl_sld hx hb hX hbl hbA hS (by omega) (by omega) dd_L_law_784 ?_
    refine jl_top (congrArg nI ev_u) ?_
    refine lv_aload_n hx hb dd_L_law_785 rfl (lv_at hl 2 rfl) ?_
    refine lv_iload hx hb dd_L_law_786 (lv_at hl 1 rfl) ?_
    refine lv_iconst (v := nI 2) hx hb dd_L_law_788 (by decide) ?_
    refine jl_iadd hx hb dd_L_law_789 ?_
    refine jl_sld hx hb hX hbl hbA hS (by omega) (by omega) dd_L_law_790 ?_
    refine jl_top (congrArg nI ev_z) ?_
    have hD := jw_permD List.perm_append_comm hD
    have hP := jw_permP List.perm_append_comm hP
    refine jm_callV C (ct_M_stat l G qM qK qZ qN qB qY qi qo qm qp c1 c2 c3 c4 c5 c6 c7 c8 c9 K Z N B Y I O M P ct wr ofs th pa ey fo la u z hv_u hv_z hR.s0.v.ents hR.s0.k3 hR.s0.z6 hR.s0.n2 hR.s0.y2) kl_L_117 ⟨Nat.le_of_ble_eq_true rfl, Nat.le_of_ble_eq_true rfl⟩ ⟨by show 23 + 7 * nn + 3 + 0 ≤ 601024; omega, by show 3071 + 42 * nn + 18 + 0 ≤ 7293034; omega⟩ hP hD hS hA hKM (va_recv hKM hP (ci := 4) (q0 := 0) rfl rfl) hl.1 rfl rfl (Nat.le_of_ble_eq_true rfl) dd_L_law_791 (fun H locs hP hD hS => ?_)
    refine jl_top (congrArg nI (Eq.symm (show ((jf_statR s ((jf_inodeAt s u).getD 0) z)) = _ from (by rw [if_pos hm0]; exact (E.2 hm0))))) ?_
    refine lv_istore (lv' := [(6, .int (nI ((jf_statR s ((jf_inodeAt s u).getD 0) z)))), (5, .int (nI 0)), (4, .int (nI ii)), (0, .ref bb), (1, .ref qJ), (2, .ref qM), (3, .ref qw)]) hx hb dd_L_law_794 hl (by decide) rfl (fun ls hl => ?_)
    refine lv_aload_n hx hb dd_L_law_796 rfl (lv_at hl 5 rfl) ?_
    refine jr_callV C (ct_M_thrown l G _ _ _ _ _ _ _ _ _ _ _ _ _ _ _ _ _ _ _ _ _ _ _ _ _ _ _ _ _ _ _ _ _ _ _ _) kl_L_78 ⟨Nat.le_of_ble_eq_true rfl, Nat.le_of_ble_eq_true rfl, rfl, rfl⟩ ⟨by show 23 + 7 * nn + 3 + 0 ≤ 601024; omega, by show 3071 + 42 * nn + 18 + 0 ≤ 7293034; omega⟩ (jw_left hP) hKM (va_recv hKM hP (ci := 4) (q0 := 0) rfl rfl) hl.1 rfl rfl (Nat.le_of_ble_eq_true rfl) dd_L_law_797 ?_
    refine lv_iload hx hb dd_L_law_800 (lv_at hl 1 rfl) ?_
    refine lv_icmp_eq (tgt := 807) hx hb dd_L_law_802 (by decide) (fun _ => ?_) (fun h9 => absurd (show nI (jm_stT K Z Y u z) = nI 0 from by rw [hm0]) h9)
    refine lv_iload hx hb dd_L_law_807 (lv_at hl 1 rfl) ?_
    refine lv_if_ne (tgt := 824) hx hb dd_L_law_809 (by decide) (fun h9 => absurd nI_0 h9) (fun _ => ?_)
    refine lv_aload_n hx hb dd_L_law_812 rfl (lv_at hl 6 rfl) ?_
    refine lv_iconst (v := nI 0) hx hb dd_L_law_813 (by decide) ?_
    refine va_lald hx hb hKO hP 22 3 rfl rfl (vp_in_nI (by decide) (by decide)) dd_L_law_814 ?_
    refine jl_topL pk_uLs ?_
    refine lv_iload hx hb dd_L_law_815 (lv_at hl 0 rfl) ?_
    refine jl_i2l hx hb (jk_statv hR.s0.ok _ _) dd_L_law_817 ?_
    refine W.lcmp hx hb dd_L_law_818 ?_
    refine jl_top (jx_cmp0 _) ?_
    refine lv_if_eq (tgt := 824) hx hb dd_L_law_819 (by decide) (fun _ => ?_) (fun h9 => absurd nI_0 h9)
    refine lv_goto (tgt := 1039) hx hb dd_L_law_824 (by decide) ?_
    have hD := jw_permD List.perm_append_comm hD
    have hP := jw_permP List.perm_append_comm hP
    refine W.widen (by show 23 + 7 * nn + 3 + 0 ≤ 23 + 7 * (nn + 1); omega) (by show 3071 + 42 * nn + 18 + 0 ≤ 3071 + 42 * (nn + 1); omega) ?_
    exact nx _ _ _ _ _ _ _ _ _ _ _ _ _ _ _ _ _ _ _ _ _ _ _ _ _ _ _ _ _ _ _ hR (by omega) (by omega) hP hD hS (lv_sub hl [2, 3, 4, 5, 6] rfl)
  · skip
    have hP : va_P G jcl (((wJ qJ qH qh cH qI qD qS qC cS cC s c ho hn hg hm hp wc wd tf) ++ [(qw, .inl (cw, 1, .inr (.inl fw)))]) ++ wM qM qK qZ qN qB qY qi qo qm qp c1 c2 c3 c4 c5 c6 c7 c8 c9 K Z N B Y I O M P ct wr ofs th pa ey fo la) H := hP
    have hD : va_D A (((wJ qJ qH qh cH qI qD qS qC cS cC s c ho hn hg hm hp wc wd tf) ++ [(qw, .inl (cw, 1, .inr (.inl fw)))]) ++ wM qM qK qZ qN qB qY qi qo qm qp c1 c2 c3 c4 c5 c6 c7 c8 c9 K Z N B Y I O M P ct wr ofs th pa ey fo la) := hD
    have hm0 : ¬ (jm_stT K Z Y u z) = 0 := by rw [← E.1]; exact h0
    refine lv_istore (lv' := [(5, .int (nI ((jf_statT s u z)))), (4, .int (nI ii)), (0, .ref bb), (1, .ref qJ), (2, .ref qM), (3, .ref qw)]) hx hb dd_L_law_776 hl (by decide) rfl (fun ls hl => ?_)
    refine lv_aload_n hx hb dd_L_law_778 rfl (lv_at hl 4 rfl) ?_
    refine lv_aload_n hx hb dd_L_law_779 rfl (lv_at hl 2 rfl) ?_
    refine lv_iload hx hb dd_L_law_780 (lv_at hl 1 rfl) ?_
    refine lv_iconst (v := nI 1) hx hb dd_L_law_782 (by decide) ?_
    refine jl_iadd hx hb dd_L_law_783 ?_
    refine jl_sld hx hb hX hbl hbA hS (by omega) (by omega) dd_L_law_784 ?_
    refine jl_top (congrArg nI ev_u) ?_
    refine lv_aload_n hx hb dd_L_law_785 rfl (lv_at hl 2 rfl) ?_
    refine lv_iload hx hb dd_L_law_786 (lv_at hl 1 rfl) ?_
    refine lv_iconst (v := nI 2) hx hb dd_L_law_788 (by decide) ?_
    refine jl_iadd hx hb dd_L_law_789 ?_
    refine jl_sld hx hb hX hbl hbA hS (by omega) (by omega) dd_L_law_790 ?_
    refine jl_top (congrArg nI ev_z) ?_
    have hD := jw_permD List.perm_append_comm hD
    have hP := jw_permP List.perm_append_comm hP
    refine jm_callV C (ct_M_stat l G qM qK qZ qN qB qY qi qo qm qp c1 c2 c3 c4 c5 c6 c7 c8 c9 K Z N B Y I O M P ct wr ofs th pa ey fo la u z hv_u hv_z hR.s0.v.ents hR.s0.k3 hR.s0.z6 hR.s0.n2 hR.s0.y2) kl_L_117 ⟨Nat.le_of_ble_eq_true rfl, Nat.le_of_ble_eq_true rfl⟩ ⟨by show 23 + 7 * nn + 3 + 0 ≤ 601024; omega, by show 3071 + 42 * nn + 18 + 0 ≤ 7293034; omega⟩ hP hD hS hA hKM (va_recv hKM hP (ci := 4) (q0 := 0) rfl rfl) hl.1 rfl rfl (Nat.le_of_ble_eq_true rfl) dd_L_law_791 (fun H locs hP hD hS => ?_)
    refine lv_istore (lv' := (6, _) :: [(5, .int (nI ((jf_statT s u z)))), (4, .int (nI ii)), (0, .ref bb), (1, .ref qJ), (2, .ref qM), (3, .ref qw)]) hx hb dd_L_law_794 hl (by decide) rfl (fun ls hl => ?_)
    refine lv_aload_n hx hb dd_L_law_796 rfl (lv_at hl 5 rfl) ?_
    refine jr_callV C (ct_M_thrown l G _ _ _ _ _ _ _ _ _ _ _ _ _ _ _ _ _ _ _ _ _ _ _ _ _ _ _ _ _ _ _ _ _ _ _ _) kl_L_78 ⟨Nat.le_of_ble_eq_true rfl, Nat.le_of_ble_eq_true rfl, rfl, rfl⟩ ⟨by show 23 + 7 * nn + 3 + 0 ≤ 601024; omega, by show 3071 + 42 * nn + 18 + 0 ≤ 7293034; omega⟩ (jw_left hP) hKM (va_recv hKM hP (ci := 4) (q0 := 0) rfl rfl) hl.1 rfl rfl (Nat.le_of_ble_eq_true rfl) dd_L_law_797 ?_
    refine lv_iload hx hb dd_L_law_800 (lv_at hl 1 rfl) ?_
    refine lv_icmp_eq (tgt := 807) hx hb dd_L_law_802 (by decide) (fun _ => ?_) (fun h9 => absurd (show nI (jm_stT K Z Y u z) = nI ((jf_statT s u z)) from by rw [← E.1]) h9)
    refine lv_iload hx hb dd_L_law_807 (lv_at hl 1 rfl) ?_
    refine lv_if_ne (tgt := 824) hx hb dd_L_law_809 (by decide) (fun _ => ?_) (fun h9 => absurd h9 (jx_ne0 (h0) (by have := jk_stat s u z; omega)))
    refine lv_goto (tgt := 1039) hx hb dd_L_law_824 (by decide) ?_
    have hD := jw_permD List.perm_append_comm hD
    have hP := jw_permP List.perm_append_comm hP
    refine W.widen (by show 23 + 7 * nn + 3 + 0 ≤ 23 + 7 * (nn + 1); omega) (by show 3071 + 42 * nn + 18 + 0 ≤ 3071 + 42 * (nn + 1); omega) ?_
    exact nx _ _ _ _ _ _ _ _ _ _ _ _ _ _ _ _ _ _ _ _ _ _ _ _ _ _ _ _ _ _ _ hR (by omega) (by omega) hP hD hS (lv_sub hl [2, 3, 4, 5, 6] rfl)

set_option maxHeartbeats 4000000 in
set_option maxRecDepth 100000 in
theorem lw_case_commit {p : Program} {l : Launch} {e : Env} {σ : State} {m : MethodId} {below : List Frame} {meth : Method} {cd : Code} {bb L : Nat} {xs : Nat → Int32} {G : va_G} {A : Nat → Prop} {qJ qH : Nat} {qh : Nat → Nat} {cH : ClassId} {qI qD qS qC : Nat} {cS cC : ClassId} {qw : Nat} {cw : ClassId} {qM qK qZ qN qB qY qi qo qm qp : Nat} {c1 c2 c3 c4 c5 c6 c7 c8 c9 : ClassId} {Q : State → Prop} {ii nn : Nat} (hl9 : l.stackTraces = false) (C : jx p σ m #[Value.ref bb] meth cd cn_L code 8 ret) (hz : jz A σ σ.heap) (hy : jy σ) (hKO : va_K G jcl (tJ cS cC cH ++ [(cw, .long)]) σ) (hKM : va_K G jcl (tM c1 c2 c3 c4 c5 c6 c7 c8 c9) σ) (hX : va_X bb L xs σ σ.heap) (hbl : bb < σ.heap.size) (hbA : ¬ A bb) (hA : ∀ q : Nat, σ.heap.size ≤ q → A q) (hL : L ≤ 3072) (hii : ii + 6 ≤ L) (hnn : nn < 512) (nx : lw_nx p l e σ m below meth cd bb L xs G A qJ qH qh cH qI qD qS qC cS cC qw cw qM qK qZ qN qB qY qi qo qm qp c1 c2 c3 c4 c5 c6 c7 c8 c9 Q ii nn) {H : Heap} {locs : List Loc} {ls : Array Slot} {fw : Nat → Int64} {s c ho hn hg hm hp : Nat → Nat} {wc wd tf : Nat} {K Z N B Y I O M P : Nat → Nat} {ct wr ofs th : Nat} {pa ey fo : Option Nat} {la : Nat} (hR : je_R s c ho hn hg hm hp wc wd tf K Z N B Y I O M P ct wr ofs) (hw : wr ≤ 81 * nn) (hof : ofs ≤ nn) (hP : va_P G jcl ((wJ qJ qH qh cH qI qD qS qC cS cC s c ho hn hg hm hp wc wd tf ++ [(qw, .inl (cw, 1, .inr (.inl fw)))]) ++ wM qM qK qZ qN qB qY qi qo qm qp c1 c2 c3 c4 c5 c6 c7 c8 c9 K Z N B Y I O M P ct wr ofs th pa ey fo la) H) (hD : va_D A ((wJ qJ qH qh cH qI qD qS qC cS cC s c ho hn hg hm hp wc wd tf ++ [(qw, .inl (cw, 1, .inr (.inl fw)))]) ++ wM qM qK qZ qN qB qY qi qo qm qp c1 c2 c3 c4 c5 c6 c7 c8 c9 K Z N B Y I O M P ct wr ofs th pa ey fo la)) (hS : va_S A σ.heap H locs) (hl : lv_has ls 8 [(4, .int (nI ii)), (0, .ref bb), (1, .ref qJ), (2, .ref qM), (3, .ref qw)]) : W p l e room_1 σ m #[Value.ref bb] below meth cd H locs (23 + 7 * nn) (3071 + 42 * nn) Q (F0 m 827 ls []) := by
  have hx := C.1
  have hb := C.2.1
  have hown := C.2.2.2.1
  have hts := C.2.2.2.2.1
  have hKJ : va_K G jcl (tJ cS cC cH) σ := hKO.sub [0, 1, 2] rfl
  refine lv_aload_n hx hb dd_L_law_827 rfl (lv_at hl 2 rfl) ?_
  refine lv_aload_n hx hb dd_L_law_828 rfl (lv_at hl 4 rfl) ?_
  have E := je_commit hR
  refine jL_callS (wr := wM qM qK qZ qN qB qY qi qo qm qp c1 c2 c3 c4 c5 c6 c7 c8 c9 K Z N B Y I O M P ct wr ofs th pa ey fo la) C hz hy (ct_L_commit l hl9 G qJ qH qh cH qI qD qS qC cS cC s c ho hn hg hm hp wc wd tf qw cw fw (by have := hR.ew; omega) (by have := hR.ec; have := hR.cl; omega) (by have := hR.et; omega) hR.s0.ok hR.s1.ok) kw_L_commit ⟨Nat.le_of_ble_eq_true rfl, Nat.le_of_ble_eq_true rfl⟩ ⟨by show 23 + 7 * nn + 1 ≤ 601024; omega, by show 3071 + 42 * nn + 6 ≤ 7293034; omega⟩ hP hD hS hA hKO hl.1 rfl rfl (Nat.le_of_ble_eq_true rfl) dd_L_law_829 (fun o9 w9 H locs hxx hP hD hS => ?_)
  rcases hxx with ⟨h0, rfl, rfl⟩ | ⟨h0, rfl, rfl⟩
  · skip
    have hP : va_P G jcl (((wJ qJ qH qh cH qI qD qS qC cS cC s (jf_cpy s c) ho hn hg hm hp (if wc = 0 then 0 else wc - (jf_cmJ (jf_differing s c) + jf_differing s c)) (wd + (jf_cmJ (jf_differing s c) + jf_differing s c)) tf) ++ [(qw, .inl (cw, 1, .inr (.inl (vp_updL fw (nI 0).toNatClampNeg (lN ((jf_cmJ (jf_differing s c) + jf_differing s c)))))))]) ++ wM qM qK qZ qN qB qY qi qo qm qp c1 c2 c3 c4 c5 c6 c7 c8 c9 K Z N B Y I O M P ct wr ofs th pa ey fo la) H := hP
    have hD : va_D A (((wJ qJ qH qh cH qI qD qS qC cS cC s (jf_cpy s c) ho hn hg hm hp (if wc = 0 then 0 else wc - (jf_cmJ (jf_differing s c) + jf_differing s c)) (wd + (jf_cmJ (jf_differing s c) + jf_differing s c)) tf) ++ [(qw, .inl (cw, 1, .inr (.inl (vp_updL fw (nI 0).toNatClampNeg (lN ((jf_cmJ (jf_differing s c) + jf_differing s c)))))))]) ++ wM qM qK qZ qN qB qY qi qo qm qp c1 c2 c3 c4 c5 c6 c7 c8 c9 K Z N B Y I O M P ct wr ofs th pa ey fo la) := hD
    refine lv_istore (lv' := [(5, .int (nI 0)), (4, .int (nI ii)), (0, .ref bb), (1, .ref qJ), (2, .ref qM), (3, .ref qw)]) hx hb dd_L_law_832 hl (by decide) rfl (fun ls hl => ?_)
    refine lv_aload_n hx hb dd_L_law_834 rfl (lv_at hl 4 rfl) ?_
    have hD := jw_permD List.perm_append_comm hD
    have hP := jw_permP List.perm_append_comm hP
    refine jm_callV C (ct_M_commit l G qM qK qZ qN qB qY qi qo qm qp c1 c2 c3 c4 c5 c6 c7 c8 c9 K Z N B Y I O M P ct wr ofs th pa ey fo la 40 (by omega) hR.cl (by omega) (by decide) hR.s0.k3 hR.s0.z6 hR.s0.n2 hR.s0.b4 hR.s0.y2) kl_L_121 ⟨Nat.le_of_ble_eq_true rfl, Nat.le_of_ble_eq_true rfl⟩ ⟨by show 23 + 7 * nn + 1 + 0 ≤ 601024; omega, by show 3071 + 42 * nn + 6 + 0 ≤ 7293034; omega⟩ hP hD hS hA hKM (va_recv hKM hP (ci := 4) (q0 := 0) rfl rfl) hl.1 rfl rfl (Nat.le_of_ble_eq_true rfl) dd_L_law_835 (fun H locs hP hD hS => ?_)
    refine jl_top (congrArg nI (Eq.symm (show ((jf_cmJ (jf_differing s c) + jf_differing s c)) = _ from (E.2.1 h0).1))) ?_
    refine lv_istore (lv' := [(6, .int (nI ((jf_cmJ (jf_differing s c) + jf_differing s c)))), (5, .int (nI 0)), (4, .int (nI ii)), (0, .ref bb), (1, .ref qJ), (2, .ref qM), (3, .ref qw)]) hx hb dd_L_law_838 hl (by decide) rfl (fun ls hl => ?_)
    refine lv_aload_n hx hb dd_L_law_840 rfl (lv_at hl 5 rfl) ?_
    refine jr_callV C (ct_M_thrown l G _ _ _ _ _ _ _ _ _ _ _ _ _ _ _ _ _ _ _ _ _ _ _ _ _ _ _ _ _ _ _ _ _ _ _ _) kl_L_78 ⟨Nat.le_of_ble_eq_true rfl, Nat.le_of_ble_eq_true rfl, rfl, rfl⟩ ⟨by show 23 + 7 * nn + 1 + 0 ≤ 601024; omega, by show 3071 + 42 * nn + 6 + 0 ≤ 7293034; omega⟩ (jw_left hP) hKM (va_recv hKM hP (ci := 4) (q0 := 0) rfl rfl) hl.1 rfl rfl (Nat.le_of_ble_eq_true rfl) dd_L_law_841 ?_
    refine lv_iload hx hb dd_L_law_844 (lv_at hl 1 rfl) ?_
    refine lv_icmp_eq (tgt := 851) hx hb dd_L_law_846 (by decide) (fun _ => ?_) (fun h9 => absurd (show nI (jm_cmH (jm_differing K Z N B Y) ct) = nI 0 from by rw [← E.1, if_pos h0]) h9)
    refine lv_iload hx hb dd_L_law_851 (lv_at hl 1 rfl) ?_
    refine lv_if_ne (tgt := 868) hx hb dd_L_law_853 (by decide) (fun h9 => absurd nI_0 h9) (fun _ => ?_)
    refine lv_aload_n hx hb dd_L_law_856 rfl (lv_at hl 6 rfl) ?_
    refine lv_iconst (v := nI 0) hx hb dd_L_law_857 (by decide) ?_
    refine va_lald hx hb hKO hP 22 3 rfl rfl (vp_in_nI (by decide) (by decide)) dd_L_law_858 ?_
    refine jl_topL pk_uLs ?_
    refine lv_iload hx hb dd_L_law_859 (lv_at hl 0 rfl) ?_
    refine jl_i2l hx hb (jk_commitv s c) dd_L_law_861 ?_
    refine W.lcmp hx hb dd_L_law_862 ?_
    refine jl_top (jx_cmp0 _) ?_
    refine lv_if_eq (tgt := 868) hx hb dd_L_law_863 (by decide) (fun _ => ?_) (fun h9 => absurd nI_0 h9)
    refine lv_goto (tgt := 1039) hx hb dd_L_law_868 (by decide) ?_
    have hD := jw_permD List.perm_append_comm hD
    have hP := jw_permP List.perm_append_comm hP
    refine W.widen (by show 23 + 7 * nn + 1 + 0 ≤ 23 + 7 * (nn + 1); omega) (by show 3071 + 42 * nn + 6 + 0 ≤ 3071 + 42 * (nn + 1); omega) ?_
    exact nx _ _ _ _ _ _ _ _ _ _ _ _ _ _ _ _ _ _ _ _ _ _ _ _ _ _ _ _ _ _ _ (E.2.1 h0).2 (je_cmW hR hw) (je_cmO hof _ _) hP hD hS (lv_sub hl [2, 3, 4, 5, 6] rfl)
  · skip
    have hP : va_P G jcl (((wJ qJ qH qh cH qI qD qS qC cS cC (jf_cpy (if jf_cmJ (jf_differing s c) < wc then jf_cpy s c else c) s) (if jf_cmJ (jf_differing s c) < wc then jf_cpy s c else c) (jf_lpL 6 0 ho) hn hg hm hp 0 (wd + (wc - 1)) (tf + 1)) ++ [(qw, .inl (cw, 1, .inr (.inl fw)))]) ++ wM qM qK qZ qN qB qY qi qo qm qp c1 c2 c3 c4 c5 c6 c7 c8 c9 K Z N B Y I O M P ct wr ofs th pa ey fo la) H := hP
    have hD : va_D A (((wJ qJ qH qh cH qI qD qS qC cS cC (jf_cpy (if jf_cmJ (jf_differing s c) < wc then jf_cpy s c else c) s) (if jf_cmJ (jf_differing s c) < wc then jf_cpy s c else c) (jf_lpL 6 0 ho) hn hg hm hp 0 (wd + (wc - 1)) (tf + 1)) ++ [(qw, .inl (cw, 1, .inr (.inl fw)))]) ++ wM qM qK qZ qN qB qY qi qo qm qp c1 c2 c3 c4 c5 c6 c7 c8 c9 K Z N B Y I O M P ct wr ofs th pa ey fo la) := hD
    refine lv_istore (lv' := [(5, .int (nI (1))), (4, .int (nI ii)), (0, .ref bb), (1, .ref qJ), (2, .ref qM), (3, .ref qw)]) hx hb dd_L_law_832 hl (by decide) rfl (fun ls hl => ?_)
    refine lv_aload_n hx hb dd_L_law_834 rfl (lv_at hl 4 rfl) ?_
    have hD := jw_permD List.perm_append_comm hD
    have hP := jw_permP List.perm_append_comm hP
    refine jm_callV C (ct_M_commit l G qM qK qZ qN qB qY qi qo qm qp c1 c2 c3 c4 c5 c6 c7 c8 c9 K Z N B Y I O M P ct wr ofs th pa ey fo la 40 (by omega) hR.cl (by omega) (by decide) hR.s0.k3 hR.s0.z6 hR.s0.n2 hR.s0.b4 hR.s0.y2) kl_L_121 ⟨Nat.le_of_ble_eq_true rfl, Nat.le_of_ble_eq_true rfl⟩ ⟨by show 23 + 7 * nn + 1 + 0 ≤ 601024; omega, by show 3071 + 42 * nn + 6 + 0 ≤ 7293034; omega⟩ hP hD hS hA hKM (va_recv hKM hP (ci := 4) (q0 := 0) rfl rfl) hl.1 rfl rfl (Nat.le_of_ble_eq_true rfl) dd_L_law_835 (fun H locs hP hD hS => ?_)
    refine lv_istore (lv' := (6, _) :: [(5, .int (nI (1))), (4, .int (nI ii)), (0, .ref bb), (1, .ref qJ), (2, .ref qM), (3, .ref qw)]) hx hb dd_L_law_838 hl (by decide) rfl (fun ls hl => ?_)
    refine lv_aload_n hx hb dd_L_law_840 rfl (lv_at hl 5 rfl) ?_
    refine jr_callV C (ct_M_thrown l G _ _ _ _ _ _ _ _ _ _ _ _ _ _ _ _ _ _ _ _ _ _ _ _ _ _ _ _ _ _ _ _ _ _ _ _) kl_L_78 ⟨Nat.le_of_ble_eq_true rfl, Nat.le_of_ble_eq_true rfl, rfl, rfl⟩ ⟨by show 23 + 7 * nn + 1 + 0 ≤ 601024; omega, by show 3071 + 42 * nn + 6 + 0 ≤ 7293034; omega⟩ (jw_left hP) hKM (va_recv hKM hP (ci := 4) (q0 := 0) rfl rfl) hl.1 rfl rfl (Nat.le_of_ble_eq_true rfl) dd_L_law_841 ?_
    refine lv_iload hx hb dd_L_law_844 (lv_at hl 1 rfl) ?_
    refine lv_icmp_eq (tgt := 851) hx hb dd_L_law_846 (by decide) (fun _ => ?_) (fun h9 => absurd (show nI (jm_cmH (jm_differing K Z N B Y) ct) = nI (1) from by rw [← E.1, if_neg h0]) h9)
    refine lv_iload hx hb dd_L_law_851 (lv_at hl 1 rfl) ?_
    refine lv_if_ne (tgt := 868) hx hb dd_L_law_853 (by decide) (fun _ => ?_) (fun h9 => absurd h9 (jx_ne0 (by decide) (by decide)))
    refine lv_goto (tgt := 1039) hx hb dd_L_law_868 (by decide) ?_
    have hD := jw_permD List.perm_append_comm hD
    have hP := jw_permP List.perm_append_comm hP
    refine W.widen (by show 23 + 7 * nn + 1 + 0 ≤ 23 + 7 * (nn + 1); omega) (by show 3071 + 42 * nn + 6 + 0 ≤ 3071 + 42 * (nn + 1); omega) ?_
    exact nx _ _ _ _ _ _ _ _ _ _ _ _ _ _ _ _ _ _ _ _ _ _ _ _ _ _ _ _ _ _ _ (E.2.2 h0) (je_cmW hR hw) (je_cmO hof _ _) hP hD hS (lv_sub hl [2, 3, 4, 5, 6] rfl)

